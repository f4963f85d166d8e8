set_option maxHeartbeats 4000000 in
set_option maxRecDepth 100000 in
theorem S_X9_append (l : Launch) (a0 : Nat) (a1 : Int) (a2 : Int) (M : xv_M) (q : Int × xv_M) (h : D_X9_append a0 a1 a2 M = some q) : xv_Met l yX9_append wsX9_append rm_X9_append 0 0 false [xr a0, xi a1, xi a2] M (xv_qI false q) := by
  refine xv_enter (cc := cX9_append) (nL := 4) (ret := (some .int)) rfl (by decide +kernel) (Nat.le_of_ble_eq_true rfl) h ?_
  intro Y hY0 hl hR hnL hfl hret hnm0
  have hY : xv_ok Y cX9_append wsX9_append RX9 := hY0
  have hin9 : ∀ w ∈ u_ws RX9 TX9 9, w ∈ wsX9_append := fun _ h => List.mem_cons_of_mem _ (List.mem_append_right _ h)
  unfold D_X9_append
  refine xv_mk (L' := [some (xr a0), some (xi a1), some (xi a2), none]) [true, true, true, true] rfl ?_
  refine xv_aload_n rfl rfl hY dX9_append_0 rfl ?_
  refine xv_getI (ci := 9) (j := 0) hY dX9_append_1 rfl rfl rfl (by decide) hin9 (by decide) rfl (List.mem_of_getElem? (i := 1) rfl) (fun v1 => ?_)
  refine xv_bipush (by decide) hY dX9_append_4 rfl ?_
  refine xv_icmp_lt (t := 12) hY dX9_append_6 (by decide) rfl ?_ ?_
  · refine xv_aload_n rfl rfl hY dX9_append_12 rfl ?_
    refine xv_getI (ci := 9) (j := 0) hY dX9_append_13 rfl rfl rfl (by decide) hin9 (by decide) rfl (List.mem_of_getElem? (i := 1) rfl) (fun v2 => ?_)
    refine xv_istore_n (L' := [some (xr a0), some (xi a1), some (xi a2), some (xi v2)]) hY dX9_append_16 rfl rfl (by rw [hnL]; decide) rfl rfl ?_
    refine xv_aload_n rfl rfl hY dX9_append_17 rfl ?_
    refine xv_dupr hY dX9_append_18 rfl ?_
    refine xv_getI (ci := 9) (j := 0) hY dX9_append_19 rfl rfl rfl (by decide) hin9 (by decide) rfl (List.mem_of_getElem? (i := 1) rfl) (fun v3 => ?_)
    refine xv_iconst hY dX9_append_22 rfl ?_
    refine xv_iadd hY dX9_append_23 rfl ?_
    refine xv_putI (ci := 9) (j := 0) hY dX9_append_24 rfl rfl rfl (by decide) hin9 (by decide) rfl (List.mem_of_getElem? (i := 1) rfl) tyX9_ok nmX9 (Or.inl rfl) rfl (fun M4 => ?_)
    refine xv_aload_n rfl rfl hY dX9_append_27 rfl ?_
    refine xv_getP (ci := 9) (j := 1) hY dX9_append_28 rfl rfl rfl (by decide) hin9 (by decide) rfl (List.mem_of_getElem? (i := 2) rfl) (fun v5 => ?_)
    refine xv_iload_n rfl rfl hY dX9_append_31 rfl ?_
    refine xv_iload_n rfl rfl hY dX9_append_32 rfl ?_
    refine xv_iast hY hfl dX9_append_33 rfl (fun M6 => ?_)
    refine xv_aload_n rfl rfl hY dX9_append_34 rfl ?_
    refine xv_getP (ci := 9) (j := 2) hY dX9_append_35 rfl rfl rfl (by decide) hin9 (by decide) rfl (List.mem_of_getElem? (i := 3) rfl) (fun v7 => ?_)
    refine xv_iload_n rfl rfl hY dX9_append_38 rfl ?_
    refine xv_iload_n rfl rfl hY dX9_append_39 rfl ?_
    refine xv_iast hY hfl dX9_append_40 rfl (fun M8 => ?_)
    refine xv_iload_n rfl rfl hY dX9_append_41 rfl ?_
    exact xv_ireti hY hfl dX9_append_42 hret (Nat.le_of_ble_eq_true rfl) (Nat.le_of_ble_eq_true rfl)
  · refine xv_bipush (by decide) hY dX9_append_9 rfl ?_
    exact xv_ireti hY hfl dX9_append_11 hret (Nat.le_of_ble_eq_true rfl) (Nat.le_of_ble_eq_true rfl)
set_option maxHeartbeats 4000000 in
set_option maxRecDepth 100000 in
theorem S_X2_addWalker (l : Launch) (a0 : Nat) (a1 : Int) (a2 : Int) (M : xv_M) (q : Int × xv_M) (h : D_X2_addWalker a0 a1 a2 M = some q) : xv_Met l yX2_addWalker wsX2_addWalker rm_X2_addWalker 0 0 false [xr a0, xi a1, xi a2] M (xv_qI false q) := by
  refine xv_enter (cc := cX2_addWalker) (nL := 4) (ret := (some .int)) rfl (by decide +kernel) (Nat.le_of_ble_eq_true rfl) h ?_
  intro Y hY0 hl hR hnL hfl hret hnm0
  have hY : xv_ok Y cX2_addWalker wsX2_addWalker RX2 := hY0
  have hin2 : ∀ w ∈ u_ws RX2 TX2 3, w ∈ wsX2_addWalker := fun _ h => List.mem_cons_of_mem _ (List.mem_append_left _ (List.mem_append_left _ (List.mem_append_left _ (List.mem_append_left _ (List.mem_append_left _ (List.mem_append_right _ h))))))
  have hin6 : ∀ w ∈ u_ws RX6 TX6 4, w ∈ wsX2_addWalker := fun _ h => List.mem_cons_of_mem _ (List.mem_append_left _ (List.mem_append_left _ (List.mem_append_left _ (List.mem_append_left _ (List.mem_append_right _ h)))))
  unfold D_X2_addWalker
  refine xv_mk (L' := [some (xr a0), some (xi a1), some (xi a2), none]) [true, true, true, true] rfl ?_
  refine xv_aload_n rfl rfl hY dX2_addWalker_0 rfl ?_
  refine xv_getP (ci := 2) (j := 0) hY dX2_addWalker_1 rfl rfl rfl (by decide) hin2 (by decide) rfl (List.mem_of_getElem? (i := 1) rfl) (fun v1 => ?_)
  refine xv_getP (ci := 6) (j := 2) hY dX2_addWalker_4 rfl rfl rfl (by decide) hin6 (by decide) rfl (List.mem_of_getElem? (i := 2) rfl) (fun v2 => ?_)
  refine xv_iload_n rfl rfl hY dX2_addWalker_7 rfl ?_
  refine xv_iload_n rfl rfl hY dX2_addWalker_8 rfl ?_
  refine xv_callVI (ci := 9) (y := yX9_append) (ws := wsX9_append) (rm := rm_X9_append) (mc := 0) (ms := 0) (n := 2) (av := [xi a1, xi a2]) hY dX2_addWalker_9 rfl rfl rfl (by decide) (fun q hq => by rw [hfl]; exact S_X9_append Y.1.2.1 v2 a1 a2 M q hq) (cwV 2 hY.2.2.2.2.1 gX2_addWalker_X9_append rfl rfl rfl (by decide +kernel) ⟨(by rw [hR]; exact Nat.le_of_ble_eq_true rfl), (by rw [hR]; exact Nat.le_of_ble_eq_true rfl)⟩) rfl (Nat.le_of_ble_eq_true rfl) ⟨(by rw [hR]; exact Nat.le_of_ble_eq_true rfl), (by rw [hR]; exact Nat.le_of_ble_eq_true rfl)⟩ (fun z4 M3 => ?_)
  refine xv_istore_n (L' := [some (xr a0), some (xi a1), some (xi a2), some (xi z4)]) hY dX2_addWalker_12 rfl rfl (by rw [hnL]; decide) rfl rfl ?_
  refine xv_aload_n rfl rfl hY dX2_addWalker_13 rfl ?_
  refine xv_callVI (ci := 2) (y := yX2_tellAll) (ws := wsX2_tellAll) (rm := rm_X2_tellAll) (mc := 0) (ms := 0) (n := 0) (av := []) hY dX2_addWalker_14 rfl rfl rfl (by decide) (fun q hq => by rw [hfl]; exact S_X2_tellAll Y.1.2.1 a0 M3 q hq) (cwV 0 hY.2.2.2.2.1 gX2_addWalker_X2_tellAll rfl rfl rfl (by decide +kernel) ⟨(by rw [hR]; exact Nat.le_of_ble_eq_true rfl), (by rw [hR]; exact Nat.le_of_ble_eq_true rfl)⟩) rfl (Nat.le_of_ble_eq_true rfl) ⟨(by rw [hR]; exact Nat.le_of_ble_eq_true rfl), (by rw [hR]; exact Nat.le_of_ble_eq_true rfl)⟩ (fun z6 M5 => ?_)
  refine xv_pop hY dX2_addWalker_17 rfl ?_
  refine xv_iload_n rfl rfl hY dX2_addWalker_18 rfl ?_
  exact xv_ireti hY hfl dX2_addWalker_19 hret (Nat.le_of_ble_eq_true rfl) (Nat.le_of_ble_eq_true rfl)
set_option maxHeartbeats 4000000 in
set_option maxRecDepth 100000 in
theorem S_X2_putWalker (l : Launch) (a0 : Nat) (a1 : Int) (a2 : Int) (M : xv_M) (q : Int × xv_M) (h : D_X2_putWalker a0 a1 a2 M = some q) : xv_Met l yX2_putWalker wsX2_putWalker rm_X2_putWalker 0 0 false [xr a0, xi a1, xi a2] M (xv_qI false q) := by
  refine xv_enter (cc := cX2_putWalker) (nL := 3) (ret := (some .int)) rfl (by decide +kernel) (Nat.le_of_ble_eq_true rfl) h ?_
  intro Y hY0 hl hR hnL hfl hret hnm0
  have hY : xv_ok Y cX2_putWalker wsX2_putWalker RX2 := hY0
  have hin2 : ∀ w ∈ u_ws RX2 TX2 3, w ∈ wsX2_putWalker := fun _ h => List.mem_cons_of_mem _ (List.mem_append_left _ (List.mem_append_left _ (List.mem_append_left _ (List.mem_append_left _ (List.mem_append_left _ (List.mem_append_right _ h))))))
  have hin6 : ∀ w ∈ u_ws RX6 TX6 4, w ∈ wsX2_putWalker := fun _ h => List.mem_cons_of_mem _ (List.mem_append_left _ (List.mem_append_left _ (List.mem_append_left _ (List.mem_append_left _ (List.mem_append_right _ h)))))
  have hin9 : ∀ w ∈ u_ws RX9 TX9 9, w ∈ wsX2_putWalker := fun _ h => List.mem_cons_of_mem _ (List.mem_append_left _ (List.mem_append_left _ (List.mem_append_left _ (List.mem_append_right _ h))))
  unfold D_X2_putWalker
  refine xv_mk (L' := [some (xr a0), some (xi a1), some (xi a2)]) [true, true, true] rfl ?_
  refine xv_aload_n rfl rfl hY dX2_putWalker_0 rfl ?_
  refine xv_getP (ci := 2) (j := 0) hY dX2_putWalker_1 rfl rfl rfl (by decide) hin2 (by decide) rfl (List.mem_of_getElem? (i := 1) rfl) (fun v1 => ?_)
  refine xv_getP (ci := 6) (j := 2) hY dX2_putWalker_4 rfl rfl rfl (by decide) hin6 (by decide) rfl (List.mem_of_getElem? (i := 2) rfl) (fun v2 => ?_)
  refine xv_getP (ci := 9) (j := 1) hY dX2_putWalker_7 rfl rfl rfl (by decide) hin9 (by decide) rfl (List.mem_of_getElem? (i := 3) rfl) (fun v3 => ?_)
  refine xv_iload_n rfl rfl hY dX2_putWalker_10 rfl ?_
  refine xv_iload_n rfl rfl hY dX2_putWalker_11 rfl ?_
  refine xv_iast hY hfl dX2_putWalker_12 rfl (fun M4 => ?_)
  refine xv_aload_n rfl rfl hY dX2_putWalker_13 rfl ?_
  refine xv_iload_n rfl rfl hY dX2_putWalker_14 rfl ?_
  refine xv_callVI (ci := 2) (y := yX2_tell) (ws := wsX2_tell) (rm := rm_X2_tell) (mc := 0) (ms := 0) (n := 1) (av := [xi a1]) hY dX2_putWalker_15 rfl rfl rfl (by decide) (fun q hq => by rw [hfl]; exact S_X2_tell Y.1.2.1 a0 a1 M4 q hq) (cwV 1 hY.2.2.2.2.1 gX2_putWalker_X2_tell rfl rfl rfl (by decide +kernel) ⟨(by rw [hR]; exact Nat.le_of_ble_eq_true rfl), (by rw [hR]; exact Nat.le_of_ble_eq_true rfl)⟩) rfl (Nat.le_of_ble_eq_true rfl) ⟨(by rw [hR]; exact Nat.le_of_ble_eq_true rfl), (by rw [hR]; exact Nat.le_of_ble_eq_true rfl)⟩ (fun z6 M5 => ?_)
  exact xv_ireti hY hfl dX2_putWalker_18 hret (Nat.le_of_ble_eq_true rfl) (Nat.le_of_ble_eq_true rfl)
set_option maxHeartbeats 4000000 in
set_option maxRecDepth 100000 in
theorem S_X11_turnsNext (l : Launch) (a0 : Int) (a1 : Int) (M : xv_M) (q : Int × xv_M) (h : D_X11_turnsNext a0 a1 M = some q) : xv_Met l yX11_turnsNext wsX11_turnsNext rm_X11_turnsNext 0 0 false [xi a0, xi a1] M (xv_qI false q) := by
  refine xv_enter (cc := cX11_turnsNext) (nL := 2) (ret := (some .boolean)) rfl (by decide +kernel) (Nat.le_of_ble_eq_true rfl) h ?_
  intro Y hY0 hl hR hnL hfl hret hnm0
  have hY : xv_ok Y cX11_turnsNext wsX11_turnsNext RX11 := hY0
  unfold D_X11_turnsNext
  refine xv_mk (L' := [some (xi a0), some (xi a1)]) [true, true] rfl ?_
  refine xv_iload_n rfl rfl hY dX11_turnsNext_0 rfl ?_
  refine xv_iload_n rfl rfl hY dX11_turnsNext_1 rfl ?_
  refine xv_iadd hY dX11_turnsNext_2 rfl ?_
  refine xv_callSI (y := yX11_isPlace) (ws := wsX11_isPlace) (rm := rm_X11_isPlace) (mc := 0) (ms := 0) (n := 1) (av := [xi (a0 + a1)]) hY dX11_turnsNext_3 rfl rfl (fun q hq => by rw [hfl]; exact S_X11_isPlace Y.1.2.1 (a0 + a1) M q hq) (va_cwS 1 hY.2.2.2.2.1 gX11_turnsNext_X11_isPlace rfl rfl rfl (by decide +kernel) ⟨(by rw [hR]; exact Nat.le_of_ble_eq_true rfl), (by rw [hR]; exact Nat.le_of_ble_eq_true rfl)⟩) rfl (Nat.le_of_ble_eq_true rfl) ⟨(by rw [hR]; exact Nat.le_of_ble_eq_true rfl), (by rw [hR]; exact Nat.le_of_ble_eq_true rfl)⟩ (fun z2 M1 => ?_)
  refine xv_if_ne (t := 13) hY dX11_turnsNext_6 (by decide) rfl ?_ ?_
  · refine xv_iconst hY dX11_turnsNext_13 rfl ?_
    exact xv_iretz hY hfl dX11_turnsNext_14 hret (Nat.le_of_ble_eq_true rfl) (Nat.le_of_ble_eq_true rfl)
  · refine xv_iconst hY dX11_turnsNext_9 rfl ?_
    refine xv_goto (pc' := 14) hY dX11_turnsNext_10 (by decide) ?_
    exact xv_iretz hY hfl dX11_turnsNext_14 hret (Nat.le_of_ble_eq_true rfl) (Nat.le_of_ble_eq_true rfl)
set_option maxHeartbeats 4000000 in
set_option maxRecDepth 100000 in
theorem S_X11_nextPlace (l : Launch) (a0 : Int) (a1 : Int) (M : xv_M) (q : Int × xv_M) (h : D_X11_nextPlace a0 a1 M = some q) : xv_Met l yX11_nextPlace wsX11_nextPlace rm_X11_nextPlace 0 0 false [xi a0, xi a1] M (xv_qI false q) := by
  refine xv_enter (cc := cX11_nextPlace) (nL := 3) (ret := (some .int)) rfl (by decide +kernel) (Nat.le_of_ble_eq_true rfl) h ?_
  intro Y hY0 hl hR hnL hfl hret hnm0
  have hY : xv_ok Y cX11_nextPlace wsX11_nextPlace RX11 := hY0
  unfold D_X11_nextPlace
  refine xv_mk (L' := [some (xi a0), some (xi a1), none]) [true, true, true] rfl ?_
  refine xv_iload_n rfl rfl hY dX11_nextPlace_0 rfl ?_
  refine xv_iload_n rfl rfl hY dX11_nextPlace_1 rfl ?_
  refine xv_iadd hY dX11_nextPlace_2 rfl ?_
  refine xv_istore_n (L' := [some (xi a0), some (xi a1), some (xi (a0 + a1))]) hY dX11_nextPlace_3 rfl rfl (by rw [hnL]; decide) rfl rfl ?_
  refine xv_iload_n rfl rfl hY dX11_nextPlace_4 rfl ?_
  refine xv_if_ge (t := 11) hY dX11_nextPlace_5 (by decide) rfl ?_ ?_
  · refine xv_iload_n rfl rfl hY dX11_nextPlace_11 rfl ?_
    refine xv_sipush (by decide) hY dX11_nextPlace_12 rfl ?_
    refine xv_icmp_le (t := 26) hY dX11_nextPlace_15 (by decide) rfl ?_ ?_
    · refine xv_iload_n rfl rfl hY dX11_nextPlace_26 rfl ?_
      exact xv_ireti hY hfl dX11_nextPlace_27 hret (Nat.le_of_ble_eq_true rfl) (Nat.le_of_ble_eq_true rfl)
    · refine xv_sipush (by decide) hY dX11_nextPlace_18 rfl ?_
      refine xv_iload_n rfl rfl hY dX11_nextPlace_21 rfl ?_
      refine xv_isub hY dX11_nextPlace_22 rfl ?_
      refine xv_goto (pc' := 27) hY dX11_nextPlace_23 (by decide) ?_
      exact xv_ireti hY hfl dX11_nextPlace_27 hret (Nat.le_of_ble_eq_true rfl) (Nat.le_of_ble_eq_true rfl)
  · refine xv_iload_n rfl rfl hY dX11_nextPlace_8 rfl ?_
    refine xv_ineg hY dX11_nextPlace_9 rfl ?_
    exact xv_ireti hY hfl dX11_nextPlace_10 hret (Nat.le_of_ble_eq_true rfl) (Nat.le_of_ble_eq_true rfl)
set_option maxHeartbeats 4000000 in
set_option maxRecDepth 100000 in
theorem S_X11_nextSpeed (l : Launch) (a0 : Int) (a1 : Int) (M : xv_M) (q : Int × xv_M) (h : D_X11_nextSpeed a0 a1 M = some q) : xv_Met l yX11_nextSpeed wsX11_nextSpeed rm_X11_nextSpeed 0 0 false [xi a0, xi a1] M (xv_qI false q) := by
  refine xv_enter (cc := cX11_nextSpeed) (nL := 2) (ret := (some .int)) rfl (by decide +kernel) (Nat.le_of_ble_eq_true rfl) h ?_
  intro Y hY0 hl hR hnL hfl hret hnm0
  have hY : xv_ok Y cX11_nextSpeed wsX11_nextSpeed RX11 := hY0
  unfold D_X11_nextSpeed
  refine xv_mk (L' := [some (xi a0), some (xi a1)]) [true, true] rfl ?_
  refine xv_iload_n rfl rfl hY dX11_nextSpeed_0 rfl ?_
  refine xv_iload_n rfl rfl hY dX11_nextSpeed_1 rfl ?_
  refine xv_callSI (y := yX11_turnsNext) (ws := wsX11_turnsNext) (rm := rm_X11_turnsNext) (mc := 0) (ms := 0) (n := 2) (av := [xi a0, xi a1]) hY dX11_nextSpeed_2 rfl rfl (fun q hq => by rw [hfl]; exact S_X11_turnsNext Y.1.2.1 a0 a1 M q hq) (va_cwS 2 hY.2.2.2.2.1 gX11_nextSpeed_X11_turnsNext rfl rfl rfl (by decide +kernel) ⟨(by rw [hR]; exact Nat.le_of_ble_eq_true rfl), (by rw [hR]; exact Nat.le_of_ble_eq_true rfl)⟩) rfl (Nat.le_of_ble_eq_true rfl) ⟨(by rw [hR]; exact Nat.le_of_ble_eq_true rfl), (by rw [hR]; exact Nat.le_of_ble_eq_true rfl)⟩ (fun z2 M1 => ?_)
  refine xv_if_eq (t := 13) hY dX11_nextSpeed_5 (by decide) rfl ?_ ?_
  · refine xv_iload_n rfl rfl hY dX11_nextSpeed_13 rfl ?_
    exact xv_ireti hY hfl dX11_nextSpeed_14 hret (Nat.le_of_ble_eq_true rfl) (Nat.le_of_ble_eq_true rfl)
  · refine xv_iload_n rfl rfl hY dX11_nextSpeed_8 rfl ?_
    refine xv_ineg hY dX11_nextSpeed_9 rfl ?_
    refine xv_goto (pc' := 14) hY dX11_nextSpeed_10 (by decide) ?_
    exact xv_ireti hY hfl dX11_nextSpeed_14 hret (Nat.le_of_ble_eq_true rfl) (Nat.le_of_ble_eq_true rfl)
set_option maxHeartbeats 4000000 in
set_option maxRecDepth 100000 in
theorem S_X9_stepTurns (l : Launch) (a0 : Nat) (a1 : Int) (M : xv_M) (q : Int × xv_M) (h : D_X9_stepTurns a0 a1 M = some q) : xv_Met l yX9_stepTurns wsX9_stepTurns rm_X9_stepTurns 0 0 false [xr a0, xi a1] M (xv_qI false q) := by
  refine xv_enter (cc := cX9_stepTurns) (nL := 5) (ret := (some .boolean)) rfl (by decide +kernel) (Nat.le_of_ble_eq_true rfl) h ?_
  intro Y hY0 hl hR hnL hfl hret hnm0
  have hY : xv_ok Y cX9_stepTurns wsX9_stepTurns RX9 := hY0
  have hin9 : ∀ w ∈ u_ws RX9 TX9 9, w ∈ wsX9_stepTurns := fun _ h => List.mem_cons_of_mem _ (List.mem_append_right _ h)
  unfold D_X9_stepTurns
  refine xv_mk (L' := [some (xr a0), some (xi a1), none, none, none]) [true, true, true, true, true] rfl ?_
  refine xv_aload_n rfl rfl hY dX9_stepTurns_0 rfl ?_
  refine xv_getP (ci := 9) (j := 1) hY dX9_stepTurns_1 rfl rfl rfl (by decide) hin9 (by decide) rfl (List.mem_of_getElem? (i := 1) rfl) (fun v1 => ?_)
  refine xv_iload_n rfl rfl hY dX9_stepTurns_4 rfl ?_
  refine xv_iald hY dX9_stepTurns_5 rfl (fun v2 => ?_)
  refine xv_istore_n (L' := [some (xr a0), some (xi a1), some (xi v2), none, none]) hY dX9_stepTurns_6 rfl rfl (by rw [hnL]; decide) rfl rfl ?_
  refine xv_aload_n rfl rfl hY dX9_stepTurns_7 rfl ?_
  refine xv_getP (ci := 9) (j := 2) hY dX9_stepTurns_8 rfl rfl rfl (by decide) hin9 (by decide) rfl (List.mem_of_getElem? (i := 2) rfl) (fun v3 => ?_)
  refine xv_iload_n rfl rfl hY dX9_stepTurns_11 rfl ?_
  refine xv_iald hY dX9_stepTurns_12 rfl (fun v4 => ?_)
  refine xv_istore_n (L' := [some (xr a0), some (xi a1), some (xi v2), some (xi v4), none]) hY dX9_stepTurns_13 rfl rfl (by rw [hnL]; decide) rfl rfl ?_
  refine xv_iload_n rfl rfl hY dX9_stepTurns_14 rfl ?_
  refine xv_iload_n rfl rfl hY dX9_stepTurns_15 rfl ?_
  refine xv_callSNI (y := yX11_turnsNext) (ws := wsX11_turnsNext) (rm := rm_X11_turnsNext) (mc := 0) (ms := 0) (n := 2) (av := [xi v2, xi v4]) hY dX9_stepTurns_16 rfl rfl (fun q hq => by rw [hfl]; exact S_X11_turnsNext Y.1.2.1 v2 v4 M q hq) ⟨va_cnB 2 hY.2.2.2.2.1 gX9_stepTurns_X11_turnsNext_n43 rfl rfl rfl (hY.2.2.2.2.2.1.2.1 _ (List.mem_of_getElem? (i := 15) rfl)) (hY.2.2.2.2.1 _ (by decide +kernel)) (by decide +kernel) ⟨(by rw [hR]; exact Nat.le_of_ble_eq_true rfl), (by rw [hR]; exact Nat.le_of_ble_eq_true rfl)⟩, hY.2.2.2.2.1 _ (by decide +kernel), trivial⟩ rfl (Nat.le_of_ble_eq_true rfl) ⟨(by rw [hR]; exact Nat.le_of_ble_eq_true rfl), (by rw [hR]; exact Nat.le_of_ble_eq_true rfl)⟩ (fun z6 M5 => ?_)
  refine xv_istore (L' := [some (xr a0), some (xi a1), some (xi v2), some (xi v4), some (xi z6)]) hY dX9_stepTurns_19 rfl (by rw [hnL]; decide) rfl rfl ?_
  refine xv_aload_n rfl rfl hY dX9_stepTurns_21 rfl ?_
  refine xv_getP (ci := 9) (j := 1) hY dX9_stepTurns_22 rfl rfl rfl (by decide) hin9 (by decide) rfl (List.mem_of_getElem? (i := 1) rfl) (fun v7 => ?_)
  refine xv_iload_n rfl rfl hY dX9_stepTurns_25 rfl ?_
  refine xv_iload_n rfl rfl hY dX9_stepTurns_26 rfl ?_
  refine xv_iload_n rfl rfl hY dX9_stepTurns_27 rfl ?_
  refine xv_callSNI (y := yX11_nextPlace) (ws := wsX11_nextPlace) (rm := rm_X11_nextPlace) (mc := 0) (ms := 0) (n := 2) (av := [xi v2, xi v4]) hY dX9_stepTurns_28 rfl rfl (fun q hq => by rw [hfl]; exact S_X11_nextPlace Y.1.2.1 v2 v4 M5 q hq) ⟨va_cnB 2 hY.2.2.2.2.1 gX9_stepTurns_X11_nextPlace_n47 rfl rfl rfl (hY.2.2.2.2.2.1.2.1 _ (List.mem_of_getElem? (i := 16) rfl)) (hY.2.2.2.2.1 _ (by decide +kernel)) (by decide +kernel) ⟨(by rw [hR]; exact Nat.le_of_ble_eq_true rfl), (by rw [hR]; exact Nat.le_of_ble_eq_true rfl)⟩, hY.2.2.2.2.1 _ (by decide +kernel), trivial⟩ rfl (Nat.le_of_ble_eq_true rfl) ⟨(by rw [hR]; exact Nat.le_of_ble_eq_true rfl), (by rw [hR]; exact Nat.le_of_ble_eq_true rfl)⟩ (fun z9 M8 => ?_)
  refine xv_iast hY hfl dX9_stepTurns_31 rfl (fun M10 => ?_)
  refine xv_aload_n rfl rfl hY dX9_stepTurns_32 rfl ?_
  refine xv_getP (ci := 9) (j := 2) hY dX9_stepTurns_33 rfl rfl rfl (by decide) hin9 (by decide) rfl (List.mem_of_getElem? (i := 2) rfl) (fun v11 => ?_)
  refine xv_iload_n rfl rfl hY dX9_stepTurns_36 rfl ?_
  refine xv_iload_n rfl rfl hY dX9_stepTurns_37 rfl ?_
  refine xv_iload_n rfl rfl hY dX9_stepTurns_38 rfl ?_
  refine xv_callSNI (y := yX11_nextSpeed) (ws := wsX11_nextSpeed) (rm := rm_X11_nextSpeed) (mc := 0) (ms := 0) (n := 2) (av := [xi v2, xi v4]) hY dX9_stepTurns_39 rfl rfl (fun q hq => by rw [hfl]; exact S_X11_nextSpeed Y.1.2.1 v2 v4 M10 q hq) ⟨va_cnB 2 hY.2.2.2.2.1 gX9_stepTurns_X11_nextSpeed_n51 rfl rfl rfl (hY.2.2.2.2.2.1.2.1 _ (List.mem_of_getElem? (i := 17) rfl)) (hY.2.2.2.2.1 _ (by decide +kernel)) (by decide +kernel) ⟨(by rw [hR]; exact Nat.le_of_ble_eq_true rfl), (by rw [hR]; exact Nat.le_of_ble_eq_true rfl)⟩, hY.2.2.2.2.1 _ (by decide +kernel), trivial⟩ rfl (Nat.le_of_ble_eq_true rfl) ⟨(by rw [hR]; exact Nat.le_of_ble_eq_true rfl), (by rw [hR]; exact Nat.le_of_ble_eq_true rfl)⟩ (fun z13 M12 => ?_)
  refine xv_iast hY hfl dX9_stepTurns_42 rfl (fun M14 => ?_)
  refine xv_aload_n rfl rfl hY dX9_stepTurns_43 rfl ?_
  refine xv_getP (ci := 9) (j := 6) hY dX9_stepTurns_44 rfl rfl rfl (by decide) hin9 (by decide) rfl (List.mem_of_getElem? (i := 3) rfl) (fun v15 => ?_)
  refine xv_iload_n rfl rfl hY dX9_stepTurns_47 rfl ?_
  refine xv_dup2 hY dX9_stepTurns_48 rfl ?_
  refine xv_iald hY dX9_stepTurns_49 rfl (fun v16 => ?_)
  refine xv_iload_n rfl rfl hY dX9_stepTurns_50 rfl ?_
  refine xv_mabs hY dX9_stepTurns_51 rfl (by decide +kernel) (by decide +kernel) (by decide +kernel) (by decide +kernel) (by rw [hR]; exact Nat.le_of_ble_eq_true rfl) (by rw [hR]; exact Nat.le_of_ble_eq_true rfl) (by rw [hR]; exact Nat.le_of_ble_eq_true rfl) (by rw [hR]; exact Nat.le_of_ble_eq_true rfl) (fun v17 => ?_)
  refine xv_iadd hY dX9_stepTurns_54 rfl ?_
  refine xv_iast hY hfl dX9_stepTurns_55 rfl (fun M18 => ?_)
  refine xv_iload rfl hY dX9_stepTurns_56 rfl ?_
  refine xv_if_eq (t := 71) hY dX9_stepTurns_58 (by decide) rfl ?_ ?_
  · refine xv_iload rfl hY dX9_stepTurns_71 rfl ?_
    exact xv_iretz hY hfl dX9_stepTurns_73 hret (Nat.le_of_ble_eq_true rfl) (Nat.le_of_ble_eq_true rfl)
  · refine xv_aload_n rfl rfl hY dX9_stepTurns_61 rfl ?_
    refine xv_getP (ci := 9) (j := 7) hY dX9_stepTurns_62 rfl rfl rfl (by decide) hin9 (by decide) rfl (List.mem_of_getElem? (i := 8) rfl) (fun v19 => ?_)
    refine xv_iload_n rfl rfl hY dX9_stepTurns_65 rfl ?_
    refine xv_dup2 hY dX9_stepTurns_66 rfl ?_
    refine xv_iald hY dX9_stepTurns_67 rfl (fun v20 => ?_)
    refine xv_iconst hY dX9_stepTurns_68 rfl ?_
    refine xv_iadd hY dX9_stepTurns_69 rfl ?_
    refine xv_iast hY hfl dX9_stepTurns_70 rfl (fun M21 => ?_)
    refine xv_iload rfl hY dX9_stepTurns_71 rfl ?_
    exact xv_iretz hY hfl dX9_stepTurns_73 hret (Nat.le_of_ble_eq_true rfl) (Nat.le_of_ble_eq_true rfl)
set_option maxHeartbeats 4000000 in
set_option maxRecDepth 100000 in
theorem S_X2_countTickInside (l : Launch) (a0 : Nat) (M : xv_M) (q : Unit × xv_M) (h : D_X2_countTickInside a0 M = some q) : xv_Met l yX2_countTickInside wsX2_countTickInside rm_X2_countTickInside 0 0 false [xr a0] M (xv_qV false q) := by
  refine xv_enter (cc := cX2_countTickInside) (nL := 3) (ret := none) rfl (by decide +kernel) (Nat.le_of_ble_eq_true rfl) h ?_
  intro Y hY0 hl hR hnL hfl hret hnm0
  have hY : xv_ok Y cX2_countTickInside wsX2_countTickInside RX2 := hY0
  have hin2 : ∀ w ∈ u_ws RX2 TX2 3, w ∈ wsX2_countTickInside := fun _ h => List.mem_cons_of_mem _ (List.mem_append_left _ (List.mem_append_left _ (List.mem_append_left _ (List.mem_append_right _ h))))
  have hin5 : ∀ w ∈ u_ws RX5 TX5 8, w ∈ wsX2_countTickInside := fun _ h => List.mem_cons_of_mem _ (List.mem_append_right _ h)
  have hin6 : ∀ w ∈ u_ws RX6 TX6 4, w ∈ wsX2_countTickInside := fun _ h => List.mem_cons_of_mem _ (List.mem_append_left _ (List.mem_append_left _ (List.mem_append_right _ h)))
  have hin9 : ∀ w ∈ u_ws RX9 TX9 9, w ∈ wsX2_countTickInside := fun _ h => List.mem_cons_of_mem _ (List.mem_append_left _ (List.mem_append_right _ h))
  unfold D_X2_countTickInside
  refine xv_mk (L' := [some (xr a0), none, none]) [true, true, true] rfl ?_
  refine xv_iconst hY dX2_countTickInside_0 rfl ?_
  refine xv_istore_n (L' := [some (xr a0), some (xi (0 : Int)), none]) hY dX2_countTickInside_1 rfl rfl (by rw [hnL]; decide) rfl rfl ?_
  refine xv_mk (L' := [some (xr a0), some (xi (0 : Int)), none]) [true, true, false] rfl ?_
  refine xv_loop (σ := Int × xv_M) (fun x1 => [some (xr a0), some (xi x1.1), none]) (fun x1 => x1.2) (fun f2 hf2 x1 => ?_) xv_fuel ((0 : Int), M)
  refine xv_iload_n rfl rfl hY dX2_countTickInside_2 rfl ?_
  refine xv_aload_n rfl rfl hY dX2_countTickInside_3 rfl ?_
  refine xv_getP (ci := 2) (j := 0) hY dX2_countTickInside_4 rfl rfl rfl (by decide) hin2 (by decide) rfl (List.mem_of_getElem? (i := 1) rfl) (fun v3 => ?_)
  refine xv_getP (ci := 6) (j := 2) hY dX2_countTickInside_7 rfl rfl rfl (by decide) hin6 (by decide) rfl (List.mem_of_getElem? (i := 2) rfl) (fun v4 => ?_)
  refine xv_getI (ci := 9) (j := 0) hY dX2_countTickInside_10 rfl rfl rfl (by decide) hin9 (by decide) rfl (List.mem_of_getElem? (i := 3) rfl) (fun v5 => ?_)
  refine xv_icmp_ge (t := 79) hY dX2_countTickInside_13 (by decide) rfl ?_ ?_
  · exact xv_vretu hY hfl dX2_countTickInside_79 hret (Nat.le_of_ble_eq_true rfl) (Nat.le_of_ble_eq_true rfl)
  · refine xv_iconst hY dX2_countTickInside_16 rfl ?_
    refine xv_istore_n (L' := [some (xr a0), some (xi x1.1), some (xi (0 : Int))]) hY dX2_countTickInside_17 rfl rfl (by rw [hnL]; decide) rfl rfl ?_
    refine xv_mk (L' := [some (xr a0), some (xi x1.1), some (xi (0 : Int))]) [true, true, true] rfl ?_
    refine xv_loop (σ := Int × xv_M) (fun x6 => [some (xr a0), some (xi x1.1), some (xi x6.1)]) (fun x6 => x6.2) (fun f7 hf7 x6 => ?_) xv_fuel ((0 : Int), x1.2)
    refine xv_iload_n rfl rfl hY dX2_countTickInside_18 rfl ?_
    refine xv_aload_n rfl rfl hY dX2_countTickInside_19 rfl ?_
    refine xv_getP (ci := 2) (j := 0) hY dX2_countTickInside_20 rfl rfl rfl (by decide) hin2 (by decide) rfl (List.mem_of_getElem? (i := 1) rfl) (fun v8 => ?_)
    refine xv_getP (ci := 6) (j := 1) hY dX2_countTickInside_23 rfl rfl rfl (by decide) hin6 (by decide) rfl (List.mem_of_getElem? (i := 4) rfl) (fun v9 => ?_)
    refine xv_getI (ci := 5) (j := 0) hY dX2_countTickInside_26 rfl rfl rfl (by decide) hin5 (by decide) rfl (List.mem_of_getElem? (i := 5) rfl) (fun v10 => ?_)
    refine xv_icmp_ge (t := 73) hY dX2_countTickInside_29 (by decide) rfl ?_ ?_
    · refine xv_iinc (L' := [some (xr a0), some (xi (x1.1 + 1)), some (xi x6.1)]) hY dX2_countTickInside_73 rfl (by rw [hnL]; decide) rfl rfl rfl ?_
      refine xv_goto (pc' := 2) hY dX2_countTickInside_76 (by decide) ?_
      exact xv_mk (L' := [some (xr a0), some (xi (x1.1 + 1)), none]) [true, true, false] rfl (hf2 ((x1.1 + 1), x6.2))
    · refine xv_aload_n rfl rfl hY dX2_countTickInside_32 rfl ?_
      refine xv_getP (ci := 2) (j := 0) hY dX2_countTickInside_33 rfl rfl rfl (by decide) hin2 (by decide) rfl (List.mem_of_getElem? (i := 1) rfl) (fun v11 => ?_)
      refine xv_getP (ci := 6) (j := 2) hY dX2_countTickInside_36 rfl rfl rfl (by decide) hin6 (by decide) rfl (List.mem_of_getElem? (i := 2) rfl) (fun v12 => ?_)
      refine xv_getP (ci := 9) (j := 3) hY dX2_countTickInside_39 rfl rfl rfl (by decide) hin9 (by decide) rfl (List.mem_of_getElem? (i := 6) rfl) (fun v13 => ?_)
      refine xv_iload_n rfl rfl hY dX2_countTickInside_42 rfl ?_
      refine xv_lald hY dX2_countTickInside_43 rfl (fun v14 => ?_)
      refine xv_iload_n rfl rfl hY dX2_countTickInside_44 rfl ?_
      refine xv_callSNI (y := yX11_isMember) (ws := wsX11_isMember) (rm := rm_X11_isMember) (mc := 0) (ms := 0) (n := 2) (av := [xl v14, xi x6.1]) hY dX2_countTickInside_45 rfl rfl (fun q hq => by rw [hfl]; exact S_X11_isMember Y.1.2.1 v14 x6.1 x6.2 q hq) ⟨va_cnB 2 hY.2.2.2.2.1 gX2_countTickInside_X11_isMember_n112 rfl rfl rfl (hY.2.2.2.2.2.1.2.1 _ (List.mem_of_getElem? (i := 14) rfl)) (hY.2.2.2.2.1 _ (by decide +kernel)) (by decide +kernel) ⟨(by rw [hR]; exact Nat.le_of_ble_eq_true rfl), (by rw [hR]; exact Nat.le_of_ble_eq_true rfl)⟩, hY.2.2.2.2.1 _ (by decide +kernel), trivial⟩ rfl (Nat.le_of_ble_eq_true rfl) ⟨(by rw [hR]; exact Nat.le_of_ble_eq_true rfl), (by rw [hR]; exact Nat.le_of_ble_eq_true rfl)⟩ (fun z16 M15 => ?_)
      refine xv_join (α := xv_M) 67 (fun x17 => [some (xr a0), some (xi x1.1), some (xi x6.1)]) (fun x17 => []) (fun x17 => x17) (fun x17 => ?_) (fun j18 hj18 => ?_)
      · refine xv_iinc (L' := [some (xr a0), some (xi x1.1), some (xi (x6.1 + 1))]) hY dX2_countTickInside_67 rfl (by rw [hnL]; decide) rfl rfl rfl ?_
        refine xv_goto (pc' := 18) hY dX2_countTickInside_70 (by decide) ?_
        exact xv_mk (L' := [some (xr a0), some (xi x1.1), some (xi (x6.1 + 1))]) [true, true, true] rfl (hf7 ((x6.1 + 1), x17))
      · refine xv_if_eq (t := 67) hY dX2_countTickInside_48 (by decide) rfl ?_ ?_
        · exact xv_mk (L' := [some (xr a0), some (xi x1.1), some (xi x6.1)]) [true, true, true] rfl (hj18 M15)
        · refine xv_aload_n rfl rfl hY dX2_countTickInside_51 rfl ?_
          refine xv_getP (ci := 2) (j := 0) hY dX2_countTickInside_52 rfl rfl rfl (by decide) hin2 (by decide) rfl (List.mem_of_getElem? (i := 1) rfl) (fun v19 => ?_)
          refine xv_getP (ci := 6) (j := 1) hY dX2_countTickInside_55 rfl rfl rfl (by decide) hin6 (by decide) rfl (List.mem_of_getElem? (i := 4) rfl) (fun v20 => ?_)
          refine xv_getP (ci := 5) (j := 6) hY dX2_countTickInside_58 rfl rfl rfl (by decide) hin5 (by decide) rfl (List.mem_of_getElem? (i := 7) rfl) (fun v21 => ?_)
          refine xv_iload_n rfl rfl hY dX2_countTickInside_61 rfl ?_
          refine xv_dup2 hY dX2_countTickInside_62 rfl ?_
          refine xv_iald hY dX2_countTickInside_63 rfl (fun v22 => ?_)
          refine xv_iconst hY dX2_countTickInside_64 rfl ?_
          refine xv_iadd hY dX2_countTickInside_65 rfl ?_
          refine xv_iast hY hfl dX2_countTickInside_66 rfl (fun M23 => ?_)
          exact xv_mk (L' := [some (xr a0), some (xi x1.1), some (xi x6.1)]) [true, true, true] rfl (hj18 M23)
set_option maxHeartbeats 4000000 in
set_option maxRecDepth 100000 in
theorem S_X2_passTick (l : Launch) (a0 : Nat) (M : xv_M) (q : Int × xv_M) (h : D_X2_passTick a0 M = some q) : xv_Met l yX2_passTick wsX2_passTick rm_X2_passTick 0 0 false [xr a0] M (xv_qI false q) := by
  refine xv_enter (cc := cX2_passTick) (nL := 3) (ret := (some .int)) rfl (by decide +kernel) (Nat.le_of_ble_eq_true rfl) h ?_
  intro Y hY0 hl hR hnL hfl hret hnm0
  have hY : xv_ok Y cX2_passTick wsX2_passTick RX2 := hY0
  have hin2 : ∀ w ∈ u_ws RX2 TX2 3, w ∈ wsX2_passTick := fun _ h => List.mem_cons_of_mem _ (List.mem_append_left _ (List.mem_append_left _ (List.mem_append_left _ (List.mem_append_left _ (List.mem_append_left _ (List.mem_append_right _ h))))))
  have hin6 : ∀ w ∈ u_ws RX6 TX6 4, w ∈ wsX2_passTick := fun _ h => List.mem_cons_of_mem _ (List.mem_append_left _ (List.mem_append_left _ (List.mem_append_left _ (List.mem_append_left _ (List.mem_append_right _ h)))))
  have hin9 : ∀ w ∈ u_ws RX9 TX9 9, w ∈ wsX2_passTick := fun _ h => List.mem_cons_of_mem _ (List.mem_append_left _ (List.mem_append_left _ (List.mem_append_left _ (List.mem_append_right _ h))))
  unfold D_X2_passTick
  refine xv_mk (L' := [some (xr a0), none, none]) [true, true, true] rfl ?_
  refine xv_aload_n rfl rfl hY dX2_passTick_0 rfl ?_
  refine xv_getP (ci := 2) (j := 0) hY dX2_passTick_1 rfl rfl rfl (by decide) hin2 (by decide) rfl (List.mem_of_getElem? (i := 1) rfl) (fun v1 => ?_)
  refine xv_dupr hY dX2_passTick_4 rfl ?_
  refine xv_getI (ci := 6) (j := 0) hY dX2_passTick_5 rfl rfl rfl (by decide) hin6 (by decide) rfl (List.mem_of_getElem? (i := 2) rfl) (fun v2 => ?_)
  refine xv_iconst hY dX2_passTick_8 rfl ?_
  refine xv_iadd hY dX2_passTick_9 rfl ?_
  refine xv_putI (ci := 6) (j := 0) hY dX2_passTick_10 rfl rfl rfl (by decide) hin6 (by decide) rfl (List.mem_of_getElem? (i := 2) rfl) tyX6_ok nmX6 (Or.inl rfl) rfl (fun M3 => ?_)
  refine xv_iconst hY dX2_passTick_13 rfl ?_
  refine xv_istore_n (L' := [some (xr a0), some (xi (0 : Int)), none]) hY dX2_passTick_14 rfl rfl (by rw [hnL]; decide) rfl rfl ?_
  refine xv_iconst hY dX2_passTick_15 rfl ?_
  refine xv_istore_n (L' := [some (xr a0), some (xi (0 : Int)), some (xi (0 : Int))]) hY dX2_passTick_16 rfl rfl (by rw [hnL]; decide) rfl rfl ?_
  refine xv_mk (L' := [some (xr a0), some (xi (0 : Int)), some (xi (0 : Int))]) [true, true, true] rfl ?_
  refine xv_loop (σ := Int × Int × xv_M) (fun x4 => [some (xr a0), some (xi x4.1), some (xi x4.2.1)]) (fun x4 => x4.2.2) (fun f5 hf5 x4 => ?_) xv_fuel ((0 : Int), (0 : Int), M3)
  refine xv_iload_n rfl rfl hY dX2_passTick_17 rfl ?_
  refine xv_aload_n rfl rfl hY dX2_passTick_18 rfl ?_
  refine xv_getP (ci := 2) (j := 0) hY dX2_passTick_19 rfl rfl rfl (by decide) hin2 (by decide) rfl (List.mem_of_getElem? (i := 1) rfl) (fun v6 => ?_)
  refine xv_getP (ci := 6) (j := 2) hY dX2_passTick_22 rfl rfl rfl (by decide) hin6 (by decide) rfl (List.mem_of_getElem? (i := 3) rfl) (fun v7 => ?_)
  refine xv_getI (ci := 9) (j := 0) hY dX2_passTick_25 rfl rfl rfl (by decide) hin9 (by decide) rfl (List.mem_of_getElem? (i := 4) rfl) (fun v8 => ?_)
  refine xv_icmp_ge (t := 90) hY dX2_passTick_28 (by decide) rfl ?_ ?_
  · refine xv_aload_n rfl rfl hY dX2_passTick_90 rfl ?_
    refine xv_callVV (ci := 2) (y := yX2_countTickInside) (ws := wsX2_countTickInside) (rm := rm_X2_countTickInside) (mc := 0) (ms := 0) (n := 0) (av := []) hY dX2_passTick_91 rfl rfl rfl (by decide) (fun q hq => by rw [hfl]; exact S_X2_countTickInside Y.1.2.1 a0 x4.2.2 q hq) (cwV 0 hY.2.2.2.2.1 gX2_passTick_X2_countTickInside rfl rfl rfl (by decide +kernel) ⟨(by rw [hR]; exact Nat.le_of_ble_eq_true rfl), (by rw [hR]; exact Nat.le_of_ble_eq_true rfl)⟩) rfl (Nat.le_of_ble_eq_true rfl) ⟨(by rw [hR]; exact Nat.le_of_ble_eq_true rfl), (by rw [hR]; exact Nat.le_of_ble_eq_true rfl)⟩ (fun _ M9 => ?_)
    refine xv_iload_n rfl rfl hY dX2_passTick_94 rfl ?_
    exact xv_ireti hY hfl dX2_passTick_95 hret (Nat.le_of_ble_eq_true rfl) (Nat.le_of_ble_eq_true rfl)
  · refine xv_aload_n rfl rfl hY dX2_passTick_31 rfl ?_
    refine xv_getP (ci := 2) (j := 0) hY dX2_passTick_32 rfl rfl rfl (by decide) hin2 (by decide) rfl (List.mem_of_getElem? (i := 1) rfl) (fun v10 => ?_)
    refine xv_getP (ci := 6) (j := 2) hY dX2_passTick_35 rfl rfl rfl (by decide) hin6 (by decide) rfl (List.mem_of_getElem? (i := 3) rfl) (fun v11 => ?_)
    refine xv_iload_n rfl rfl hY dX2_passTick_38 rfl ?_
    refine xv_callVI (ci := 9) (y := yX9_stepTurns) (ws := wsX9_stepTurns) (rm := rm_X9_stepTurns) (mc := 0) (ms := 0) (n := 1) (av := [xi x4.2.1]) hY dX2_passTick_39 rfl rfl rfl (by decide) (fun q hq => by rw [hfl]; exact S_X9_stepTurns Y.1.2.1 v11 x4.2.1 x4.2.2 q hq) (cwV 1 hY.2.2.2.2.1 gX2_passTick_X9_stepTurns rfl rfl rfl (by decide +kernel) ⟨(by rw [hR]; exact Nat.le_of_ble_eq_true rfl), (by rw [hR]; exact Nat.le_of_ble_eq_true rfl)⟩) rfl (Nat.le_of_ble_eq_true rfl) ⟨(by rw [hR]; exact Nat.le_of_ble_eq_true rfl), (by rw [hR]; exact Nat.le_of_ble_eq_true rfl)⟩ (fun z13 M12 => ?_)
    refine xv_join (α := xv_M) 76 (fun x14 => [some (xr a0), some (xi x4.1), some (xi x4.2.1)]) (fun x14 => []) (fun x14 => x14) (fun x14 => ?_) (fun j15 hj15 => ?_)
    · refine xv_iload_n rfl rfl hY dX2_passTick_76 rfl ?_
      refine xv_aload_n rfl rfl hY dX2_passTick_77 rfl ?_
      refine xv_iload_n rfl rfl hY dX2_passTick_78 rfl ?_
      refine xv_callVI (ci := 2) (y := yX2_tell) (ws := wsX2_tell) (rm := rm_X2_tell) (mc := 0) (ms := 0) (n := 1) (av := [xi x4.2.1]) hY dX2_passTick_79 rfl rfl rfl (by decide) (fun q hq => by rw [hfl]; exact S_X2_tell Y.1.2.1 a0 x4.2.1 x14 q hq) (cwV 1 hY.2.2.2.2.1 gX2_passTick_X2_tell rfl rfl rfl (by decide +kernel) ⟨(by rw [hR]; exact Nat.le_of_ble_eq_true rfl), (by rw [hR]; exact Nat.le_of_ble_eq_true rfl)⟩) rfl (Nat.le_of_ble_eq_true rfl) ⟨(by rw [hR]; exact Nat.le_of_ble_eq_true rfl), (by rw [hR]; exact Nat.le_of_ble_eq_true rfl)⟩ (fun z17 M16 => ?_)
      refine xv_iadd hY dX2_passTick_82 rfl ?_
      refine xv_istore_n (L' := [some (xr a0), some (xi (x4.1 + z17)), some (xi x4.2.1)]) hY dX2_passTick_83 rfl rfl (by rw [hnL]; decide) rfl rfl ?_
      refine xv_iinc (L' := [some (xr a0), some (xi (x4.1 + z17)), some (xi (x4.2.1 + 1))]) hY dX2_passTick_84 rfl (by rw [hnL]; decide) rfl rfl rfl ?_
      refine xv_goto (pc' := 17) hY dX2_passTick_87 (by decide) ?_
      exact xv_mk (L' := [some (xr a0), some (xi (x4.1 + z17)), some (xi (x4.2.1 + 1))]) [true, true, true] rfl (hf5 ((x4.1 + z17), (x4.2.1 + 1), M16))
    · refine xv_if_eq (t := 76) hY dX2_passTick_42 (by decide) rfl ?_ ?_
      · exact xv_mk (L' := [some (xr a0), some (xi x4.1), some (xi x4.2.1)]) [true, true, true] rfl (hj15 M12)
      · refine xv_aload_n rfl rfl hY dX2_passTick_45 rfl ?_
        refine xv_getP (ci := 2) (j := 0) hY dX2_passTick_46 rfl rfl rfl (by decide) hin2 (by decide) rfl (List.mem_of_getElem? (i := 1) rfl) (fun v18 => ?_)
        refine xv_getP (ci := 6) (j := 3) hY dX2_passTick_49 rfl rfl rfl (by decide) hin6 (by decide) rfl (List.mem_of_getElem? (i := 5) rfl) (fun v19 => ?_)
        refine xv_iconst hY dX2_passTick_52 rfl ?_
        refine xv_iload_n rfl rfl hY dX2_passTick_53 rfl ?_
        refine xv_aload_n rfl rfl hY dX2_passTick_54 rfl ?_
        refine xv_getP (ci := 2) (j := 0) hY dX2_passTick_55 rfl rfl rfl (by decide) hin2 (by decide) rfl (List.mem_of_getElem? (i := 1) rfl) (fun v20 => ?_)
        refine xv_getP (ci := 6) (j := 2) hY dX2_passTick_58 rfl rfl rfl (by decide) hin6 (by decide) rfl (List.mem_of_getElem? (i := 3) rfl) (fun v21 => ?_)
        refine xv_getP (ci := 9) (j := 1) hY dX2_passTick_61 rfl rfl rfl (by decide) hin9 (by decide) rfl (List.mem_of_getElem? (i := 6) rfl) (fun v22 => ?_)
        refine xv_iload_n rfl rfl hY dX2_passTick_64 rfl ?_
        refine xv_iald hY dX2_passTick_65 rfl (fun v23 => ?_)
        refine xv_aload_n rfl rfl hY dX2_passTick_66 rfl ?_
        refine xv_getP (ci := 2) (j := 0) hY dX2_passTick_67 rfl rfl rfl (by decide) hin2 (by decide) rfl (List.mem_of_getElem? (i := 1) rfl) (fun v24 => ?_)
        refine xv_getI (ci := 6) (j := 0) hY dX2_passTick_70 rfl rfl rfl (by decide) hin6 (by decide) rfl (List.mem_of_getElem? (i := 2) rfl) (fun v25 => ?_)
        refine xv_callVV (ci := 3) (y := yX3_write) (ws := wsX3_write) (rm := rm_X3_write) (mc := 0) (ms := 0) (n := 4) (av := [xi (2 : Int), xi x4.2.1, xi v23, xi v25]) hY dX2_passTick_73 rfl rfl rfl (by decide) (fun q hq => by rw [hfl]; exact S_X3_write Y.1.2.1 v19 (2 : Int) x4.2.1 v23 v25 M12 q hq) (cwV 4 hY.2.2.2.2.1 gX2_passTick_X3_write rfl rfl rfl (by decide +kernel) ⟨(by rw [hR]; exact Nat.le_of_ble_eq_true rfl), (by rw [hR]; exact Nat.le_of_ble_eq_true rfl)⟩) rfl (Nat.le_of_ble_eq_true rfl) ⟨(by rw [hR]; exact Nat.le_of_ble_eq_true rfl), (by rw [hR]; exact Nat.le_of_ble_eq_true rfl)⟩ (fun _ M26 => ?_)
        exact xv_mk (L' := [some (xr a0), some (xi x4.1), some (xi x4.2.1)]) [true, true, true] rfl (hj15 M26)
set_option maxHeartbeats 4000000 in
set_option maxRecDepth 100000 in
theorem S_X2_ticksToChange (l : Launch) (a0 : Nat) (a1 : Int) (M : xv_M) (q : Int × xv_M) (h : D_X2_ticksToChange a0 a1 M = some q) : xv_Met l yX2_ticksToChange wsX2_ticksToChange rm_X2_ticksToChange 0 0 false [xr a0, xi a1] M (xv_qI false q) := by
  refine xv_enter (cc := cX2_ticksToChange) (nL := 8) (ret := (some .int)) rfl (by decide +kernel) (Nat.le_of_ble_eq_true rfl) h ?_
  intro Y hY0 hl hR hnL hfl hret hnm0
  have hY : xv_ok Y cX2_ticksToChange wsX2_ticksToChange RX2 := hY0
  have hin2 : ∀ w ∈ u_ws RX2 TX2 3, w ∈ wsX2_ticksToChange := fun _ h => List.mem_cons_of_mem _ (List.mem_append_left _ (List.mem_append_left _ (List.mem_append_left _ (List.mem_append_right _ h))))
  have hin6 : ∀ w ∈ u_ws RX6 TX6 4, w ∈ wsX2_ticksToChange := fun _ h => List.mem_cons_of_mem _ (List.mem_append_left _ (List.mem_append_left _ (List.mem_append_right _ h)))
  have hin9 : ∀ w ∈ u_ws RX9 TX9 9, w ∈ wsX2_ticksToChange := fun _ h => List.mem_cons_of_mem _ (List.mem_append_left _ (List.mem_append_right _ h))
  unfold D_X2_ticksToChange
  refine xv_mk (L' := [some (xr a0), some (xi a1), none, none, none, none, none, none]) [true, true, true, true, true, true, true, true] rfl ?_
  refine xv_aload_n rfl rfl hY dX2_ticksToChange_0 rfl ?_
  refine xv_getP (ci := 2) (j := 0) hY dX2_ticksToChange_1 rfl rfl rfl (by decide) hin2 (by decide) rfl (List.mem_of_getElem? (i := 1) rfl) (fun v1 => ?_)
  refine xv_getP (ci := 6) (j := 2) hY dX2_ticksToChange_4 rfl rfl rfl (by decide) hin6 (by decide) rfl (List.mem_of_getElem? (i := 2) rfl) (fun v2 => ?_)
  refine xv_getP (ci := 9) (j := 1) hY dX2_ticksToChange_7 rfl rfl rfl (by decide) hin9 (by decide) rfl (List.mem_of_getElem? (i := 3) rfl) (fun v3 => ?_)
  refine xv_iload_n rfl rfl hY dX2_ticksToChange_10 rfl ?_
  refine xv_iald hY dX2_ticksToChange_11 rfl (fun v4 => ?_)
  refine xv_istore_n (L' := [some (xr a0), some (xi a1), some (xi v4), none, none, none, none, none]) hY dX2_ticksToChange_12 rfl rfl (by rw [hnL]; decide) rfl rfl ?_
  refine xv_aload_n rfl rfl hY dX2_ticksToChange_13 rfl ?_
  refine xv_getP (ci := 2) (j := 0) hY dX2_ticksToChange_14 rfl rfl rfl (by decide) hin2 (by decide) rfl (List.mem_of_getElem? (i := 1) rfl) (fun v5 => ?_)
  refine xv_getP (ci := 6) (j := 2) hY dX2_ticksToChange_17 rfl rfl rfl (by decide) hin6 (by decide) rfl (List.mem_of_getElem? (i := 2) rfl) (fun v6 => ?_)
  refine xv_getP (ci := 9) (j := 2) hY dX2_ticksToChange_20 rfl rfl rfl (by decide) hin9 (by decide) rfl (List.mem_of_getElem? (i := 4) rfl) (fun v7 => ?_)
  refine xv_iload_n rfl rfl hY dX2_ticksToChange_23 rfl ?_
  refine xv_iald hY dX2_ticksToChange_24 rfl (fun v8 => ?_)
  refine xv_istore_n (L' := [some (xr a0), some (xi a1), some (xi v4), some (xi v8), none, none, none, none]) hY dX2_ticksToChange_25 rfl rfl (by rw [hnL]; decide) rfl rfl ?_
  refine xv_aload_n rfl rfl hY dX2_ticksToChange_26 rfl ?_
  refine xv_getP (ci := 2) (j := 1) hY dX2_ticksToChange_27 rfl rfl rfl (by decide) hin2 (by decide) rfl (List.mem_of_getElem? (i := 5) rfl) (fun v9 => ?_)
  refine xv_iload_n rfl rfl hY dX2_ticksToChange_30 rfl ?_
  refine xv_callVJ (ci := 0) (y := yX0_over) (ws := wsX0_over) (rm := rm_X0_over) (mc := 0) (ms := 0) (n := 1) (av := [xi v4]) hY dX2_ticksToChange_31 rfl rfl rfl (by decide) (fun q hq => by rw [hfl]; exact S_X0_over Y.1.2.1 v9 v4 M q hq) (cwV 1 hY.2.2.2.2.1 gX2_ticksToChange_X0_over rfl rfl rfl (by decide +kernel) ⟨(by rw [hR]; exact Nat.le_of_ble_eq_true rfl), (by rw [hR]; exact Nat.le_of_ble_eq_true rfl)⟩) rfl (Nat.le_of_ble_eq_true rfl) ⟨(by rw [hR]; exact Nat.le_of_ble_eq_true rfl), (by rw [hR]; exact Nat.le_of_ble_eq_true rfl)⟩ (fun z11 M10 => ?_)
  refine xv_lstore (L' := [some (xr a0), some (xi a1), some (xi v4), some (xi v8), some (xl z11), none, none, none]) hY dX2_ticksToChange_34 rfl (by rw [hnL]; decide) rfl rfl ?_
  refine xv_iconst hY dX2_ticksToChange_36 rfl ?_
  refine xv_istore (L' := [some (xr a0), some (xi a1), some (xi v4), some (xi v8), some (xl z11), none, some (xi (1 : Int)), none]) hY dX2_ticksToChange_37 rfl (by rw [hnL]; decide) rfl rfl ?_
  refine xv_mk (L' := [some (xr a0), none, some (xi v4), some (xi v8), some (xl z11), none, some (xi (1 : Int)), none]) [true, false, true, true, true, false, true, false] rfl ?_
  refine xv_loop (σ := Int × Int × Int × xv_M) (fun x12 => [some (xr a0), none, some (xi x12.1), some (xi x12.2.1), some (xl z11), none, some (xi x12.2.2.1), none]) (fun x12 => x12.2.2.2) (fun f13 hf13 x12 => ?_) xv_fuel (v4, v8, (1 : Int), M10)
  refine xv_iload rfl hY dX2_ticksToChange_39 rfl ?_
  refine xv_sipush (by decide) hY dX2_ticksToChange_41 rfl ?_
  refine xv_icmp_gt (t := 87) hY dX2_ticksToChange_44 (by decide) rfl ?_ ?_
  · refine xv_bipush (by decide) hY dX2_ticksToChange_87 rfl ?_
    exact xv_ireti hY hfl dX2_ticksToChange_89 hret (Nat.le_of_ble_eq_true rfl) (Nat.le_of_ble_eq_true rfl)
  · refine xv_iload_n rfl rfl hY dX2_ticksToChange_47 rfl ?_
    refine xv_istore (L' := [some (xr a0), none, some (xi x12.1), some (xi x12.2.1), some (xl z11), none, some (xi x12.2.2.1), some (xi x12.1)]) hY dX2_ticksToChange_48 rfl (by rw [hnL]; decide) rfl rfl ?_
    refine xv_iload rfl hY dX2_ticksToChange_50 rfl ?_
    refine xv_iload_n rfl rfl hY dX2_ticksToChange_52 rfl ?_
    refine xv_callSNI (y := yX11_nextPlace) (ws := wsX11_nextPlace) (rm := rm_X11_nextPlace) (mc := 0) (ms := 0) (n := 2) (av := [xi x12.1, xi x12.2.1]) hY dX2_ticksToChange_53 rfl rfl (fun q hq => by rw [hfl]; exact S_X11_nextPlace Y.1.2.1 x12.1 x12.2.1 x12.2.2.2 q hq) ⟨va_cnB 2 hY.2.2.2.2.1 gX2_ticksToChange_X11_nextPlace_n153 rfl rfl rfl (hY.2.2.2.2.2.1.2.1 _ (List.mem_of_getElem? (i := 19) rfl)) (hY.2.2.2.2.1 _ (by decide +kernel)) (by decide +kernel) ⟨(by rw [hR]; exact Nat.le_of_ble_eq_true rfl), (by rw [hR]; exact Nat.le_of_ble_eq_true rfl)⟩, hY.2.2.2.2.1 _ (by decide +kernel), trivial⟩ rfl (Nat.le_of_ble_eq_true rfl) ⟨(by rw [hR]; exact Nat.le_of_ble_eq_true rfl), (by rw [hR]; exact Nat.le_of_ble_eq_true rfl)⟩ (fun z15 M14 => ?_)
    refine xv_istore_n (L' := [some (xr a0), none, some (xi z15), some (xi x12.2.1), some (xl z11), none, some (xi x12.2.2.1), some (xi x12.1)]) hY dX2_ticksToChange_56 rfl rfl (by rw [hnL]; decide) rfl rfl ?_
    refine xv_iload rfl hY dX2_ticksToChange_57 rfl ?_
    refine xv_iload_n rfl rfl hY dX2_ticksToChange_59 rfl ?_
    refine xv_callSNI (y := yX11_nextSpeed) (ws := wsX11_nextSpeed) (rm := rm_X11_nextSpeed) (mc := 0) (ms := 0) (n := 2) (av := [xi x12.1, xi x12.2.1]) hY dX2_ticksToChange_60 rfl rfl (fun q hq => by rw [hfl]; exact S_X11_nextSpeed Y.1.2.1 x12.1 x12.2.1 M14 q hq) ⟨va_cnB 2 hY.2.2.2.2.1 gX2_ticksToChange_X11_nextSpeed_n156 rfl rfl rfl (hY.2.2.2.2.2.1.2.1 _ (List.mem_of_getElem? (i := 20) rfl)) (hY.2.2.2.2.1 _ (by decide +kernel)) (by decide +kernel) ⟨(by rw [hR]; exact Nat.le_of_ble_eq_true rfl), (by rw [hR]; exact Nat.le_of_ble_eq_true rfl)⟩, hY.2.2.2.2.1 _ (by decide +kernel), trivial⟩ rfl (Nat.le_of_ble_eq_true rfl) ⟨(by rw [hR]; exact Nat.le_of_ble_eq_true rfl), (by rw [hR]; exact Nat.le_of_ble_eq_true rfl)⟩ (fun z17 M16 => ?_)
    refine xv_istore_n (L' := [some (xr a0), none, some (xi z15), some (xi z17), some (xl z11), none, some (xi x12.2.2.1), some (xi x12.1)]) hY dX2_ticksToChange_63 rfl rfl (by rw [hnL]; decide) rfl rfl ?_
    refine xv_aload_n rfl rfl hY dX2_ticksToChange_64 rfl ?_
    refine xv_getP (ci := 2) (j := 1) hY dX2_ticksToChange_65 rfl rfl rfl (by decide) hin2 (by decide) rfl (List.mem_of_getElem? (i := 5) rfl) (fun v18 => ?_)
    refine xv_iload_n rfl rfl hY dX2_ticksToChange_68 rfl ?_
    refine xv_callVJ (ci := 0) (y := yX0_over) (ws := wsX0_over) (rm := rm_X0_over) (mc := 0) (ms := 0) (n := 1) (av := [xi z15]) hY dX2_ticksToChange_69 rfl rfl rfl (by decide) (fun q hq => by rw [hfl]; exact S_X0_over Y.1.2.1 v18 z15 M16 q hq) (cwV 1 hY.2.2.2.2.1 gX2_ticksToChange_X0_over rfl rfl rfl (by decide +kernel) ⟨(by rw [hR]; exact Nat.le_of_ble_eq_true rfl), (by rw [hR]; exact Nat.le_of_ble_eq_true rfl)⟩) rfl (Nat.le_of_ble_eq_true rfl) ⟨(by rw [hR]; exact Nat.le_of_ble_eq_true rfl), (by rw [hR]; exact Nat.le_of_ble_eq_true rfl)⟩ (fun z20 M19 => ?_)
    refine xv_lload rfl hY dX2_ticksToChange_72 rfl ?_
    refine xv_lcmp hY dX2_ticksToChange_74 rfl ?_
    refine xv_if_eq (t := 81) hY dX2_ticksToChange_75 (by decide) rfl ?_ ?_
    · refine xv_iinc (L' := [some (xr a0), none, some (xi z15), some (xi z17), some (xl z11), none, some (xi (x12.2.2.1 + 1)), some (xi x12.1)]) hY dX2_ticksToChange_81 rfl (by rw [hnL]; decide) rfl rfl rfl ?_
      refine xv_goto (pc' := 39) hY dX2_ticksToChange_84 (by decide) ?_
      exact xv_mk (L' := [some (xr a0), none, some (xi z15), some (xi z17), some (xl z11), none, some (xi (x12.2.2.1 + 1)), none]) [true, false, true, true, true, false, true, false] rfl (hf13 (z15, z17, (x12.2.2.1 + 1), M19))
    · refine xv_iload rfl hY dX2_ticksToChange_78 rfl ?_
      exact xv_ireti hY hfl dX2_ticksToChange_80 hret (Nat.le_of_ble_eq_true rfl) (Nat.le_of_ble_eq_true rfl)
set_option maxHeartbeats 4000000 in
set_option maxRecDepth 100000 in
theorem S_X3_slotOf (l : Launch) (a0 : Nat) (a1 : Int) (M : xv_M) (q : Int × xv_M) (h : D_X3_slotOf a0 a1 M = some q) : xv_Met l yX3_slotOf wsX3_slotOf rm_X3_slotOf 0 0 false [xr a0, xi a1] M (xv_qI false q) := by
  refine xv_enter (cc := cX3_slotOf) (nL := 2) (ret := (some .int)) rfl (by decide +kernel) (Nat.le_of_ble_eq_true rfl) h ?_
  intro Y hY0 hl hR hnL hfl hret hnm0
  have hY : xv_ok Y cX3_slotOf wsX3_slotOf RX3 := hY0
  have hin3 : ∀ w ∈ u_ws RX3 TX3 6, w ∈ wsX3_slotOf := fun _ h => List.mem_cons_of_mem _ (List.mem_append_right _ h)
  unfold D_X3_slotOf
  refine xv_mk (L' := [some (xr a0), some (xi a1)]) [true, true] rfl ?_
  refine xv_aload_n rfl rfl hY dX3_slotOf_0 rfl ?_
  refine xv_getI (ci := 3) (j := 1) hY dX3_slotOf_1 rfl rfl rfl (by decide) hin3 (by decide) rfl (List.mem_of_getElem? (i := 1) rfl) (fun v1 => ?_)
  refine xv_iload_n rfl rfl hY dX3_slotOf_4 rfl ?_
  refine xv_isub hY dX3_slotOf_5 rfl ?_
  refine xv_bipush (by decide) hY dX3_slotOf_6 rfl ?_
  refine xv_callSI (y := yJ9_floorMod_7cf53) (ws := wsJ9_floorMod_7cf53) (rm := rm_J9_floorMod_7cf53) (mc := 0) (ms := 0) (n := 2) (av := [xi (v1 - a1), xi (12 : Int)]) hY dX3_slotOf_8 rfl rfl (fun q hq => by rw [hfl]; exact S_J9_floorMod_7cf53 Y.1.2.1 (v1 - a1) (12 : Int) M q hq) (va_cwS 2 hY.2.2.2.2.1 gX3_slotOf_J9_floorMod_7cf53 rfl rfl rfl (by decide +kernel) ⟨(by rw [hR]; exact Nat.le_of_ble_eq_true rfl), (by rw [hR]; exact Nat.le_of_ble_eq_true rfl)⟩) rfl (Nat.le_of_ble_eq_true rfl) ⟨(by rw [hR]; exact Nat.le_of_ble_eq_true rfl), (by rw [hR]; exact Nat.le_of_ble_eq_true rfl)⟩ (fun z3 M2 => ?_)
  exact xv_ireti hY hfl dX3_slotOf_11 hret (Nat.le_of_ble_eq_true rfl) (Nat.le_of_ble_eq_true rfl)
set_option maxHeartbeats 4000000 in
set_option maxRecDepth 100000 in
theorem S_X4_init (l : Launch) (a0 : Nat) (M : xv_M) (q : Unit × xv_M) (h : D_X4_init a0 M = some q) : xv_Met l yX4_init wsX4_init rm_X4_init 4 48 true [xr a0] M (xv_qV true q) := by
  refine xv_enter (cc := cX4_init) (nL := 1) (ret := none) rfl (by decide +kernel) (Nat.le_of_ble_eq_true rfl) h ?_
  intro Y hY0 hl hR hnL hfl hret hnm0
  have hY : xv_ok Y cX4_init wsX4_init RX4 := hY0
  have hin4 : ∀ w ∈ u_ws RX4 TX4 6, w ∈ wsX4_init := fun _ h => List.mem_cons_of_mem _ (List.mem_append_right _ h)
  unfold D_X4_init
  refine xv_mk (L' := [some (xr a0)]) [true] rfl ?_
  refine xv_aload_n rfl rfl hY dX4_init_0 rfl ?_
  refine xv_objInit hY dX4_init_1 rfl (by decide +kernel) (by decide +kernel) (by decide +kernel) (by rw [hR]; exact Nat.le_of_ble_eq_true rfl) (by rw [hR]; exact Nat.le_of_ble_eq_true rfl) ?_
  refine xv_aload_n rfl rfl hY dX4_init_4 rfl ?_
  refine xv_bipush (by decide) hY dX4_init_5 rfl ?_
  refine xv_newaI (N := 12) hY hfl dX4_init_7 rfl rfl (by decide) (by decide +kernel) (by rw [hR]; exact Nat.le_of_ble_eq_true rfl) (by rw [hR]; exact Nat.le_of_ble_eq_true rfl) (fun r1 M2 => ?_)
  refine xv_putP (ci := 4) (j := 1) hY dX4_init_9 rfl rfl rfl (by decide) hin4 (by decide) rfl (List.mem_of_getElem? (i := 5) rfl) tyX4_ok nmX4 (Or.inr ⟨rfl, hnm0, rfl⟩) (Or.inr ⟨_, rfl⟩) (fun M3 => ?_)
  refine xv_aload_n rfl rfl hY dX4_init_12 rfl ?_
  refine xv_bipush (by decide) hY dX4_init_13 rfl ?_
  refine xv_newaI (N := 12) hY hfl dX4_init_15 rfl rfl (by decide) (by decide +kernel) (by rw [hR]; exact Nat.le_of_ble_eq_true rfl) (by rw [hR]; exact Nat.le_of_ble_eq_true rfl) (fun r4 M5 => ?_)
  refine xv_putP (ci := 4) (j := 2) hY dX4_init_17 rfl rfl rfl (by decide) hin4 (by decide) rfl (List.mem_of_getElem? (i := 6) rfl) tyX4_ok nmX4 (Or.inr ⟨rfl, hnm0, rfl⟩) (Or.inr ⟨_, rfl⟩) (fun M6 => ?_)
  refine xv_aload_n rfl rfl hY dX4_init_20 rfl ?_
  refine xv_bipush (by decide) hY dX4_init_21 rfl ?_
  refine xv_newaZ (N := 12) hY hfl dX4_init_23 rfl rfl (by decide) (by decide +kernel) (by rw [hR]; exact Nat.le_of_ble_eq_true rfl) (by rw [hR]; exact Nat.le_of_ble_eq_true rfl) (fun r7 M8 => ?_)
  refine xv_putP (ci := 4) (j := 3) hY dX4_init_25 rfl rfl rfl (by decide) hin4 (by decide) rfl (List.mem_of_getElem? (i := 8) rfl) tyX4_ok nmX4 (Or.inr ⟨rfl, hnm0, rfl⟩) (Or.inr ⟨_, rfl⟩) (fun M9 => ?_)
  refine xv_aload_n rfl rfl hY dX4_init_28 rfl ?_
  refine xv_bipush (by decide) hY dX4_init_29 rfl ?_
  refine xv_newaZ (N := 12) hY hfl dX4_init_31 rfl rfl (by decide) (by decide +kernel) (by rw [hR]; exact Nat.le_of_ble_eq_true rfl) (by rw [hR]; exact Nat.le_of_ble_eq_true rfl) (fun r10 M11 => ?_)
  refine xv_putP (ci := 4) (j := 4) hY dX4_init_33 rfl rfl rfl (by decide) hin4 (by decide) rfl (List.mem_of_getElem? (i := 9) rfl) tyX4_ok nmX4 (Or.inr ⟨rfl, hnm0, rfl⟩) (Or.inr ⟨_, rfl⟩) (fun M12 => ?_)
  exact xv_vretu hY hfl dX4_init_36 hret (Nat.le_of_ble_eq_true rfl) (Nat.le_of_ble_eq_true rfl)
set_option maxHeartbeats 4000000 in
set_option maxRecDepth 100000 in
theorem S_X7_hasAt (l : Launch) (a0 : Nat) (a1 : Int) (a2 : Int) (M : xv_M) (q : Int × xv_M) (h : D_X7_hasAt a0 a1 a2 M = some q) : xv_Met l yX7_hasAt wsX7_hasAt rm_X7_hasAt 0 0 false [xr a0, xi a1, xi a2] M (xv_qI false q) := by
  refine xv_enter (cc := cX7_hasAt) (nL := 3) (ret := (some .boolean)) rfl (by decide +kernel) (Nat.le_of_ble_eq_true rfl) h ?_
  intro Y hY0 hl hR hnL hfl hret hnm0
  have hY : xv_ok Y cX7_hasAt wsX7_hasAt RX7 := hY0
  have hin7 : ∀ w ∈ u_ws RX7 TX7 2, w ∈ wsX7_hasAt := fun _ h => List.mem_cons_of_mem _ (List.mem_append_right _ h)
  unfold D_X7_hasAt
  refine xv_mk (L' := [some (xr a0), some (xi a1), some (xi a2)]) [true, true, true] rfl ?_
  refine xv_iload_n rfl rfl hY dX7_hasAt_0 rfl ?_
  refine xv_if_lt (t := 26) hY dX7_hasAt_1 (by decide) rfl ?_ ?_
  · refine xv_iconst hY dX7_hasAt_26 rfl ?_
    exact xv_iretz hY hfl dX7_hasAt_27 hret (Nat.le_of_ble_eq_true rfl) (Nat.le_of_ble_eq_true rfl)
  · refine xv_iload_n rfl rfl hY dX7_hasAt_4 rfl ?_
    refine xv_aload_n rfl rfl hY dX7_hasAt_5 rfl ?_
    refine xv_getI (ci := 7) (j := 0) hY dX7_hasAt_6 rfl rfl rfl (by decide) hin7 (by decide) rfl (List.mem_of_getElem? (i := 1) rfl) (fun v1 => ?_)
    refine xv_icmp_ge (t := 26) hY dX7_hasAt_9 (by decide) rfl ?_ ?_
    · refine xv_iconst hY dX7_hasAt_26 rfl ?_
      exact xv_iretz hY hfl dX7_hasAt_27 hret (Nat.le_of_ble_eq_true rfl) (Nat.le_of_ble_eq_true rfl)
    · refine xv_aload_n rfl rfl hY dX7_hasAt_12 rfl ?_
      refine xv_getP (ci := 7) (j := 1) hY dX7_hasAt_13 rfl rfl rfl (by decide) hin7 (by decide) rfl (List.mem_of_getElem? (i := 2) rfl) (fun v2 => ?_)
      refine xv_iload_n rfl rfl hY dX7_hasAt_16 rfl ?_
      refine xv_cald hY dX7_hasAt_17 rfl (fun v3 => ?_)
      refine xv_iload_n rfl rfl hY dX7_hasAt_18 rfl ?_
      refine xv_icmp_ne (t := 26) hY dX7_hasAt_19 (by decide) rfl ?_ ?_
      · refine xv_iconst hY dX7_hasAt_26 rfl ?_
        exact xv_iretz hY hfl dX7_hasAt_27 hret (Nat.le_of_ble_eq_true rfl) (Nat.le_of_ble_eq_true rfl)
      · refine xv_iconst hY dX7_hasAt_22 rfl ?_
        refine xv_goto (pc' := 27) hY dX7_hasAt_23 (by decide) ?_
        exact xv_iretz hY hfl dX7_hasAt_27 hret (Nat.le_of_ble_eq_true rfl) (Nat.le_of_ble_eq_true rfl)
set_option maxHeartbeats 4000000 in
set_option maxRecDepth 100000 in
theorem S_X7_hasDigitAt (l : Launch) (a0 : Nat) (a1 : Int) (M : xv_M) (q : Int × xv_M) (h : D_X7_hasDigitAt a0 a1 M = some q) : xv_Met l yX7_hasDigitAt wsX7_hasDigitAt rm_X7_hasDigitAt 0 0 false [xr a0, xi a1] M (xv_qI false q) := by
  refine xv_enter (cc := cX7_hasDigitAt) (nL := 2) (ret := (some .boolean)) rfl (by decide +kernel) (Nat.le_of_ble_eq_true rfl) h ?_
  intro Y hY0 hl hR hnL hfl hret hnm0
  have hY : xv_ok Y cX7_hasDigitAt wsX7_hasDigitAt RX7 := hY0
  have hin7 : ∀ w ∈ u_ws RX7 TX7 2, w ∈ wsX7_hasDigitAt := fun _ h => List.mem_cons_of_mem _ (List.mem_append_right _ h)
  unfold D_X7_hasDigitAt
  refine xv_mk (L' := [some (xr a0), some (xi a1)]) [true, true] rfl ?_
  refine xv_iload_n rfl rfl hY dX7_hasDigitAt_0 rfl ?_
  refine xv_if_lt (t := 38) hY dX7_hasDigitAt_1 (by decide) rfl ?_ ?_
  · refine xv_iconst hY dX7_hasDigitAt_38 rfl ?_
    exact xv_iretz hY hfl dX7_hasDigitAt_39 hret (Nat.le_of_ble_eq_true rfl) (Nat.le_of_ble_eq_true rfl)
  · refine xv_iload_n rfl rfl hY dX7_hasDigitAt_4 rfl ?_
    refine xv_aload_n rfl rfl hY dX7_hasDigitAt_5 rfl ?_
    refine xv_getI (ci := 7) (j := 0) hY dX7_hasDigitAt_6 rfl rfl rfl (by decide) hin7 (by decide) rfl (List.mem_of_getElem? (i := 1) rfl) (fun v1 => ?_)
    refine xv_icmp_ge (t := 38) hY dX7_hasDigitAt_9 (by decide) rfl ?_ ?_
    · refine xv_iconst hY dX7_hasDigitAt_38 rfl ?_
      exact xv_iretz hY hfl dX7_hasDigitAt_39 hret (Nat.le_of_ble_eq_true rfl) (Nat.le_of_ble_eq_true rfl)
    · refine xv_aload_n rfl rfl hY dX7_hasDigitAt_12 rfl ?_
      refine xv_getP (ci := 7) (j := 1) hY dX7_hasDigitAt_13 rfl rfl rfl (by decide) hin7 (by decide) rfl (List.mem_of_getElem? (i := 2) rfl) (fun v2 => ?_)
      refine xv_iload_n rfl rfl hY dX7_hasDigitAt_16 rfl ?_
      refine xv_cald hY dX7_hasDigitAt_17 rfl (fun v3 => ?_)
      refine xv_bipush (by decide) hY dX7_hasDigitAt_18 rfl ?_
      refine xv_icmp_lt (t := 38) hY dX7_hasDigitAt_20 (by decide) rfl ?_ ?_
      · refine xv_iconst hY dX7_hasDigitAt_38 rfl ?_
        exact xv_iretz hY hfl dX7_hasDigitAt_39 hret (Nat.le_of_ble_eq_true rfl) (Nat.le_of_ble_eq_true rfl)
      · refine xv_aload_n rfl rfl hY dX7_hasDigitAt_23 rfl ?_
        refine xv_getP (ci := 7) (j := 1) hY dX7_hasDigitAt_24 rfl rfl rfl (by decide) hin7 (by decide) rfl (List.mem_of_getElem? (i := 2) rfl) (fun v4 => ?_)
        refine xv_iload_n rfl rfl hY dX7_hasDigitAt_27 rfl ?_
        refine xv_cald hY dX7_hasDigitAt_28 rfl (fun v5 => ?_)
        refine xv_bipush (by decide) hY dX7_hasDigitAt_29 rfl ?_
        refine xv_icmp_gt (t := 38) hY dX7_hasDigitAt_31 (by decide) rfl ?_ ?_
        · refine xv_iconst hY dX7_hasDigitAt_38 rfl ?_
          exact xv_iretz hY hfl dX7_hasDigitAt_39 hret (Nat.le_of_ble_eq_true rfl) (Nat.le_of_ble_eq_true rfl)
        · refine xv_iconst hY dX7_hasDigitAt_34 rfl ?_
          refine xv_goto (pc' := 39) hY dX7_hasDigitAt_35 (by decide) ?_
          exact xv_iretz hY hfl dX7_hasDigitAt_39 hret (Nat.le_of_ble_eq_true rfl) (Nat.le_of_ble_eq_true rfl)
set_option maxHeartbeats 4000000 in
set_option maxRecDepth 100000 in
theorem S_X7_digitAt (l : Launch) (a0 : Nat) (a1 : Int) (M : xv_M) (q : Int × xv_M) (h : D_X7_digitAt a0 a1 M = some q) : xv_Met l yX7_digitAt wsX7_digitAt rm_X7_digitAt 0 0 false [xr a0, xi a1] M (xv_qI false q) := by
  refine xv_enter (cc := cX7_digitAt) (nL := 2) (ret := (some .int)) rfl (by decide +kernel) (Nat.le_of_ble_eq_true rfl) h ?_
  intro Y hY0 hl hR hnL hfl hret hnm0
  have hY : xv_ok Y cX7_digitAt wsX7_digitAt RX7 := hY0
  have hin7 : ∀ w ∈ u_ws RX7 TX7 2, w ∈ wsX7_digitAt := fun _ h => List.mem_cons_of_mem _ (List.mem_append_right _ h)
  unfold D_X7_digitAt
  refine xv_mk (L' := [some (xr a0), some (xi a1)]) [true, true] rfl ?_
  refine xv_aload_n rfl rfl hY dX7_digitAt_0 rfl ?_
  refine xv_iload_n rfl rfl hY dX7_digitAt_1 rfl ?_
  refine xv_callVI (ci := 7) (y := yX7_hasDigitAt) (ws := wsX7_hasDigitAt) (rm := rm_X7_hasDigitAt) (mc := 0) (ms := 0) (n := 1) (av := [xi a1]) hY dX7_digitAt_2 rfl rfl rfl (by decide) (fun q hq => by rw [hfl]; exact S_X7_hasDigitAt Y.1.2.1 a0 a1 M q hq) (cwV 1 hY.2.2.2.2.1 gX7_digitAt_X7_hasDigitAt rfl rfl rfl (by decide +kernel) ⟨(by rw [hR]; exact Nat.le_of_ble_eq_true rfl), (by rw [hR]; exact Nat.le_of_ble_eq_true rfl)⟩) rfl (Nat.le_of_ble_eq_true rfl) ⟨(by rw [hR]; exact Nat.le_of_ble_eq_true rfl), (by rw [hR]; exact Nat.le_of_ble_eq_true rfl)⟩ (fun z2 M1 => ?_)
  refine xv_if_eq (t := 20) hY dX7_digitAt_5 (by decide) rfl ?_ ?_
  · refine xv_iconst hY dX7_digitAt_20 rfl ?_
    exact xv_ireti hY hfl dX7_digitAt_21 hret (Nat.le_of_ble_eq_true rfl) (Nat.le_of_ble_eq_true rfl)
  · refine xv_aload_n rfl rfl hY dX7_digitAt_8 rfl ?_
    refine xv_getP (ci := 7) (j := 1) hY dX7_digitAt_9 rfl rfl rfl (by decide) hin7 (by decide) rfl (List.mem_of_getElem? (i := 1) rfl) (fun v3 => ?_)
    refine xv_iload_n rfl rfl hY dX7_digitAt_12 rfl ?_
    refine xv_cald hY dX7_digitAt_13 rfl (fun v4 => ?_)
    refine xv_bipush (by decide) hY dX7_digitAt_14 rfl ?_
    refine xv_isub hY dX7_digitAt_16 rfl ?_
    refine xv_goto (pc' := 21) hY dX7_digitAt_17 (by decide) ?_
    exact xv_ireti hY hfl dX7_digitAt_21 hret (Nat.le_of_ble_eq_true rfl) (Nat.le_of_ble_eq_true rfl)
set_option maxHeartbeats 4000000 in
set_option maxRecDepth 100000 in
theorem S_X4_readNumber (l : Launch) (a0 : Nat) (a1 : Nat) (M : xv_M) (q : Int × xv_M) (h : D_X4_readNumber a0 a1 M = some q) : xv_Met l yX4_readNumber wsX4_readNumber rm_X4_readNumber 0 0 false [xr a0, xr a1] M (xv_qI false q) := by
  refine xv_enter (cc := cX4_readNumber) (nL := 4) (ret := (some .int)) rfl (by decide +kernel) (Nat.le_of_ble_eq_true rfl) h ?_
  intro Y hY0 hl hR hnL hfl hret hnm0
  have hY : xv_ok Y cX4_readNumber wsX4_readNumber RX4 := hY0
  have hin4 : ∀ w ∈ u_ws RX4 TX4 6, w ∈ wsX4_readNumber := fun _ h => List.mem_cons_of_mem _ (List.mem_append_left _ (List.mem_append_right _ h))
  unfold D_X4_readNumber
  refine xv_mk (L' := [some (xr a0), some (xr a1), none, none]) [true, true, true, true] rfl ?_
  refine xv_iconst hY dX4_readNumber_0 rfl ?_
  refine xv_istore_n (L' := [some (xr a0), some (xr a1), some (xi (0 : Int)), none]) hY dX4_readNumber_1 rfl rfl (by rw [hnL]; decide) rfl rfl ?_
  refine xv_iconst hY dX4_readNumber_2 rfl ?_
  refine xv_istore_n (L' := [some (xr a0), some (xr a1), some (xi (0 : Int)), some (xi (0 : Int))]) hY dX4_readNumber_3 rfl rfl (by rw [hnL]; decide) rfl rfl ?_
  refine xv_mk (L' := [some (xr a0), some (xr a1), some (xi (0 : Int)), some (xi (0 : Int))]) [true, true, true, true] rfl ?_
  refine xv_loop (σ := Int × Int × xv_M) (fun x1 => [some (xr a0), some (xr a1), some (xi x1.1), some (xi x1.2.1)]) (fun x1 => x1.2.2) (fun f2 hf2 x1 => ?_) xv_fuel ((0 : Int), (0 : Int), M)
  refine xv_iload_n rfl rfl hY dX4_readNumber_4 rfl ?_
  refine xv_iconst hY dX4_readNumber_5 rfl ?_
  refine xv_join (α := xv_M) 58 (fun x3 => [none, none, some (xi x1.1), some (xi x1.2.1)]) (fun x3 => []) (fun x3 => x3) (fun x3 => ?_) (fun j4 hj4 => ?_)
  · refine xv_iload_n rfl rfl hY dX4_readNumber_58 rfl ?_
    refine xv_if_ne (t := 66) hY dX4_readNumber_59 (by decide) rfl ?_ ?_
    · refine xv_iload_n rfl rfl hY dX4_readNumber_66 rfl ?_
      exact xv_ireti hY hfl dX4_readNumber_67 hret (Nat.le_of_ble_eq_true rfl) (Nat.le_of_ble_eq_true rfl)
    · refine xv_iconst hY dX4_readNumber_62 rfl ?_
      refine xv_goto (pc' := 67) hY dX4_readNumber_63 (by decide) ?_
      exact xv_ireti hY hfl dX4_readNumber_67 hret (Nat.le_of_ble_eq_true rfl) (Nat.le_of_ble_eq_true rfl)
  · refine xv_icmp_ge (t := 58) hY dX4_readNumber_6 (by decide) rfl ?_ ?_
    · exact xv_mk (L' := [none, none, some (xi x1.1), some (xi x1.2.1)]) [false, false, true, true] rfl (hj4 x1.2.2)
    · refine xv_aload_n rfl rfl hY dX4_readNumber_9 rfl ?_
      refine xv_aload_n rfl rfl hY dX4_readNumber_10 rfl ?_
      refine xv_getI (ci := 4) (j := 5) hY dX4_readNumber_11 rfl rfl rfl (by decide) hin4 (by decide) rfl (List.mem_of_getElem? (i := 1) rfl) (fun v5 => ?_)
      refine xv_callVI (ci := 7) (y := yX7_hasDigitAt) (ws := wsX7_hasDigitAt) (rm := rm_X7_hasDigitAt) (mc := 0) (ms := 0) (n := 1) (av := [xi v5]) hY dX4_readNumber_14 rfl rfl rfl (by decide) (fun q hq => by rw [hfl]; exact S_X7_hasDigitAt Y.1.2.1 a1 v5 x1.2.2 q hq) (cwV 1 hY.2.2.2.2.1 gX4_readNumber_X7_hasDigitAt rfl rfl rfl (by decide +kernel) ⟨(by rw [hR]; exact Nat.le_of_ble_eq_true rfl), (by rw [hR]; exact Nat.le_of_ble_eq_true rfl)⟩) rfl (Nat.le_of_ble_eq_true rfl) ⟨(by rw [hR]; exact Nat.le_of_ble_eq_true rfl), (by rw [hR]; exact Nat.le_of_ble_eq_true rfl)⟩ (fun z7 M6 => ?_)
      refine xv_if_eq (t := 58) hY dX4_readNumber_17 (by decide) rfl ?_ ?_
      · exact xv_mk (L' := [none, none, some (xi x1.1), some (xi x1.2.1)]) [false, false, true, true] rfl (hj4 M6)
      · refine xv_iload_n rfl rfl hY dX4_readNumber_20 rfl ?_
        refine xv_join (α := Unit) 28 (fun x8 => [some (xr a0), some (xr a1), some (xi x1.1), some (xi x1.2.1)]) (fun x8 => []) (fun x8 => M6) (fun x8 => ?_) (fun j9 hj9 => ?_)
        · refine xv_bipush (by decide) hY dX4_readNumber_28 rfl ?_
          refine xv_iload_n rfl rfl hY dX4_readNumber_30 rfl ?_
          refine xv_imul hY dX4_readNumber_31 rfl ?_
          refine xv_aload_n rfl rfl hY dX4_readNumber_32 rfl ?_
          refine xv_aload_n rfl rfl hY dX4_readNumber_33 rfl ?_
          refine xv_getI (ci := 4) (j := 5) hY dX4_readNumber_34 rfl rfl rfl (by decide) hin4 (by decide) rfl (List.mem_of_getElem? (i := 1) rfl) (fun v10 => ?_)
          refine xv_callVI (ci := 7) (y := yX7_digitAt) (ws := wsX7_digitAt) (rm := rm_X7_digitAt) (mc := 0) (ms := 0) (n := 1) (av := [xi v10]) hY dX4_readNumber_37 rfl rfl rfl (by decide) (fun q hq => by rw [hfl]; exact S_X7_digitAt Y.1.2.1 a1 v10 M6 q hq) (cwV 1 hY.2.2.2.2.1 gX4_readNumber_X7_digitAt rfl rfl rfl (by decide +kernel) ⟨(by rw [hR]; exact Nat.le_of_ble_eq_true rfl), (by rw [hR]; exact Nat.le_of_ble_eq_true rfl)⟩) rfl (Nat.le_of_ble_eq_true rfl) ⟨(by rw [hR]; exact Nat.le_of_ble_eq_true rfl), (by rw [hR]; exact Nat.le_of_ble_eq_true rfl)⟩ (fun z12 M11 => ?_)
          refine xv_iadd hY dX4_readNumber_40 rfl ?_
          refine xv_istore_n (L' := [some (xr a0), some (xr a1), some (xi (((10 : Int) * x1.1) + z12)), some (xi x1.2.1)]) hY dX4_readNumber_41 rfl rfl (by rw [hnL]; decide) rfl rfl ?_
          refine xv_iinc (L' := [some (xr a0), some (xr a1), some (xi (((10 : Int) * x1.1) + z12)), some (xi (x1.2.1 + 1))]) hY dX4_readNumber_42 rfl (by rw [hnL]; decide) rfl rfl rfl ?_
          refine xv_aload_n rfl rfl hY dX4_readNumber_45 rfl ?_
          refine xv_dupr hY dX4_readNumber_46 rfl ?_
          refine xv_getI (ci := 4) (j := 5) hY dX4_readNumber_47 rfl rfl rfl (by decide) hin4 (by decide) rfl (List.mem_of_getElem? (i := 1) rfl) (fun v13 => ?_)
          refine xv_iconst hY dX4_readNumber_50 rfl ?_
          refine xv_iadd hY dX4_readNumber_51 rfl ?_
          refine xv_putI (ci := 4) (j := 5) hY dX4_readNumber_52 rfl rfl rfl (by decide) hin4 (by decide) rfl (List.mem_of_getElem? (i := 1) rfl) tyX4_ok nmX4 (Or.inl rfl) rfl (fun M14 => ?_)
          refine xv_goto (pc' := 4) hY dX4_readNumber_55 (by decide) ?_
          exact xv_mk (L' := [some (xr a0), some (xr a1), some (xi (((10 : Int) * x1.1) + z12)), some (xi (x1.2.1 + 1))]) [true, true, true, true] rfl (hf2 ((((10 : Int) * x1.1) + z12), (x1.2.1 + 1), M14))
        · refine xv_if_eq (t := 28) hY dX4_readNumber_21 (by decide) rfl ?_ ?_
          · exact xv_mk (L' := [some (xr a0), some (xr a1), some (xi x1.1), some (xi x1.2.1)]) [true, true, true, true] rfl (hj9 ())
          · refine xv_iload_n rfl rfl hY dX4_readNumber_24 rfl ?_
            refine xv_if_le (t := 58) hY dX4_readNumber_25 (by decide) rfl ?_ ?_
            · exact xv_mk (L' := [none, none, some (xi x1.1), some (xi x1.2.1)]) [false, false, true, true] rfl (hj4 M6)
            · exact xv_mk (L' := [some (xr a0), some (xr a1), some (xi x1.1), some (xi x1.2.1)]) [true, true, true, true] rfl (hj9 ())
set_option maxHeartbeats 4000000 in
set_option maxRecDepth 100000 in
theorem S_X4_readSign (l : Launch) (a0 : Nat) (a1 : Nat) (a2 : Int) (M : xv_M) (q : Int × xv_M) (h : D_X4_readSign a0 a1 a2 M = some q) : xv_Met l yX4_readSign wsX4_readSign rm_X4_readSign 0 0 false [xr a0, xr a1, xi a2] M (xv_qI false q) := by
  refine xv_enter (cc := cX4_readSign) (nL := 3) (ret := (some .boolean)) rfl (by decide +kernel) (Nat.le_of_ble_eq_true rfl) h ?_
  intro Y hY0 hl hR hnL hfl hret hnm0
  have hY : xv_ok Y cX4_readSign wsX4_readSign RX4 := hY0
  have hin4 : ∀ w ∈ u_ws RX4 TX4 6, w ∈ wsX4_readSign := fun _ h => List.mem_cons_of_mem _ (List.mem_append_left _ (List.mem_append_right _ h))
  unfold D_X4_readSign
  refine xv_mk (L' := [some (xr a0), some (xr a1), some (xi a2)]) [true, true, true] rfl ?_
  refine xv_aload_n rfl rfl hY dX4_readSign_0 rfl ?_
  refine xv_aload_n rfl rfl hY dX4_readSign_1 rfl ?_
  refine xv_getI (ci := 4) (j := 5) hY dX4_readSign_2 rfl rfl rfl (by decide) hin4 (by decide) rfl (List.mem_of_getElem? (i := 1) rfl) (fun v1 => ?_)
  refine xv_iload_n rfl rfl hY dX4_readSign_5 rfl ?_
  refine xv_callVI (ci := 7) (y := yX7_hasAt) (ws := wsX7_hasAt) (rm := rm_X7_hasAt) (mc := 0) (ms := 0) (n := 2) (av := [xi v1, xi a2]) hY dX4_readSign_6 rfl rfl rfl (by decide) (fun q hq => by rw [hfl]; exact S_X7_hasAt Y.1.2.1 a1 v1 a2 M q hq) (cwV 2 hY.2.2.2.2.1 gX4_readSign_X7_hasAt rfl rfl rfl (by decide +kernel) ⟨(by rw [hR]; exact Nat.le_of_ble_eq_true rfl), (by rw [hR]; exact Nat.le_of_ble_eq_true rfl)⟩) rfl (Nat.le_of_ble_eq_true rfl) ⟨(by rw [hR]; exact Nat.le_of_ble_eq_true rfl), (by rw [hR]; exact Nat.le_of_ble_eq_true rfl)⟩ (fun z3 M2 => ?_)
  refine xv_if_ne (t := 14) hY dX4_readSign_9 (by decide) rfl ?_ ?_
  · refine xv_aload_n rfl rfl hY dX4_readSign_14 rfl ?_
    refine xv_dupr hY dX4_readSign_15 rfl ?_
    refine xv_getI (ci := 4) (j := 5) hY dX4_readSign_16 rfl rfl rfl (by decide) hin4 (by decide) rfl (List.mem_of_getElem? (i := 1) rfl) (fun v4 => ?_)
    refine xv_iconst hY dX4_readSign_19 rfl ?_
    refine xv_iadd hY dX4_readSign_20 rfl ?_
    refine xv_putI (ci := 4) (j := 5) hY dX4_readSign_21 rfl rfl rfl (by decide) hin4 (by decide) rfl (List.mem_of_getElem? (i := 1) rfl) tyX4_ok nmX4 (Or.inl rfl) rfl (fun M5 => ?_)
    refine xv_iconst hY dX4_readSign_24 rfl ?_
    exact xv_iretz hY hfl dX4_readSign_25 hret (Nat.le_of_ble_eq_true rfl) (Nat.le_of_ble_eq_true rfl)
  · refine xv_iconst hY dX4_readSign_12 rfl ?_
    exact xv_iretz hY hfl dX4_readSign_13 hret (Nat.le_of_ble_eq_true rfl) (Nat.le_of_ble_eq_true rfl)
set_option maxHeartbeats 4000000 in
set_option maxRecDepth 100000 in
theorem S_X4_readOne (l : Launch) (a0 : Nat) (a1 : Nat) (a2 : Int) (M : xv_M) (q : Int × xv_M) (h : D_X4_readOne a0 a1 a2 M = some q) : xv_Met l yX4_readOne wsX4_readOne rm_X4_readOne 0 0 false [xr a0, xr a1, xi a2] M (xv_qI false q) := by
  refine xv_enter (cc := cX4_readOne) (nL := 3) (ret := (some .boolean)) rfl (by decide +kernel) (Nat.le_of_ble_eq_true rfl) h ?_
  intro Y hY0 hl hR hnL hfl hret hnm0
  have hY : xv_ok Y cX4_readOne wsX4_readOne RX4 := hY0
  have hin4 : ∀ w ∈ u_ws RX4 TX4 6, w ∈ wsX4_readOne := fun _ h => List.mem_cons_of_mem _ (List.mem_append_left _ (List.mem_append_right _ h))
  unfold D_X4_readOne
  refine xv_mk (L' := [some (xr a0), some (xr a1), some (xi a2)]) [true, true, true] rfl ?_
  refine xv_aload_n rfl rfl hY dX4_readOne_0 rfl ?_
  refine xv_getP (ci := 4) (j := 3) hY dX4_readOne_1 rfl rfl rfl (by decide) hin4 (by decide) rfl (List.mem_of_getElem? (i := 1) rfl) (fun v1 => ?_)
  refine xv_iload_n rfl rfl hY dX4_readOne_4 rfl ?_
  refine xv_aload_n rfl rfl hY dX4_readOne_5 rfl ?_
  refine xv_aload_n rfl rfl hY dX4_readOne_6 rfl ?_
  refine xv_getI (ci := 4) (j := 5) hY dX4_readOne_7 rfl rfl rfl (by decide) hin4 (by decide) rfl (List.mem_of_getElem? (i := 2) rfl) (fun v2 => ?_)
  refine xv_bipush (by decide) hY dX4_readOne_10 rfl ?_
  refine xv_callVI (ci := 7) (y := yX7_hasAt) (ws := wsX7_hasAt) (rm := rm_X7_hasAt) (mc := 0) (ms := 0) (n := 2) (av := [xi v2, xi (91 : Int)]) hY dX4_readOne_12 rfl rfl rfl (by decide) (fun q hq => by rw [hfl]; exact S_X7_hasAt Y.1.2.1 a1 v2 (91 : Int) M q hq) (cwV 2 hY.2.2.2.2.1 gX4_readOne_X7_hasAt rfl rfl rfl (by decide +kernel) ⟨(by rw [hR]; exact Nat.le_of_ble_eq_true rfl), (by rw [hR]; exact Nat.le_of_ble_eq_true rfl)⟩) rfl (Nat.le_of_ble_eq_true rfl) ⟨(by rw [hR]; exact Nat.le_of_ble_eq_true rfl), (by rw [hR]; exact Nat.le_of_ble_eq_true rfl)⟩ (fun z4 M3 => ?_)
  refine xv_zast hY hfl dX4_readOne_15 rfl (fun M5 => ?_)
  refine xv_aload_n rfl rfl hY dX4_readOne_16 rfl ?_
  refine xv_getP (ci := 4) (j := 3) hY dX4_readOne_17 rfl rfl rfl (by decide) hin4 (by decide) rfl (List.mem_of_getElem? (i := 1) rfl) (fun v6 => ?_)
  refine xv_iload_n rfl rfl hY dX4_readOne_20 rfl ?_
  refine xv_zald hY dX4_readOne_21 rfl (fun v7 => ?_)
  refine xv_join (α := xv_M) 40 (fun x8 => [some (xr a0), some (xr a1), some (xi a2)]) (fun x8 => []) (fun x8 => x8) (fun x8 => ?_) (fun j9 hj9 => ?_)
  · refine xv_aload_n rfl rfl hY dX4_readOne_40 rfl ?_
    refine xv_dupr hY dX4_readOne_41 rfl ?_
    refine xv_getI (ci := 4) (j := 5) hY dX4_readOne_42 rfl rfl rfl (by decide) hin4 (by decide) rfl (List.mem_of_getElem? (i := 2) rfl) (fun v10 => ?_)
    refine xv_iconst hY dX4_readOne_45 rfl ?_
    refine xv_iadd hY dX4_readOne_46 rfl ?_
    refine xv_putI (ci := 4) (j := 5) hY dX4_readOne_47 rfl rfl rfl (by decide) hin4 (by decide) rfl (List.mem_of_getElem? (i := 2) rfl) tyX4_ok nmX4 (Or.inl rfl) rfl (fun M11 => ?_)
    refine xv_aload_n rfl rfl hY dX4_readOne_50 rfl ?_
    refine xv_getP (ci := 4) (j := 1) hY dX4_readOne_51 rfl rfl rfl (by decide) hin4 (by decide) rfl (List.mem_of_getElem? (i := 3) rfl) (fun v12 => ?_)
    refine xv_iload_n rfl rfl hY dX4_readOne_54 rfl ?_
    refine xv_aload_n rfl rfl hY dX4_readOne_55 rfl ?_
    refine xv_aload_n rfl rfl hY dX4_readOne_56 rfl ?_
    refine xv_callVI (ci := 4) (y := yX4_readNumber) (ws := wsX4_readNumber) (rm := rm_X4_readNumber) (mc := 0) (ms := 0) (n := 1) (av := [xr a1]) hY dX4_readOne_57 rfl rfl rfl (by decide) (fun q hq => by rw [hfl]; exact S_X4_readNumber Y.1.2.1 a0 a1 M11 q hq) (cwV 1 hY.2.2.2.2.1 gX4_readOne_X4_readNumber rfl rfl rfl (by decide +kernel) ⟨(by rw [hR]; exact Nat.le_of_ble_eq_true rfl), (by rw [hR]; exact Nat.le_of_ble_eq_true rfl)⟩) rfl (Nat.le_of_ble_eq_true rfl) ⟨(by rw [hR]; exact Nat.le_of_ble_eq_true rfl), (by rw [hR]; exact Nat.le_of_ble_eq_true rfl)⟩ (fun z14 M13 => ?_)
    refine xv_iast hY hfl dX4_readOne_60 rfl (fun M15 => ?_)
    refine xv_aload_n rfl rfl hY dX4_readOne_61 rfl ?_
    refine xv_getP (ci := 4) (j := 1) hY dX4_readOne_62 rfl rfl rfl (by decide) hin4 (by decide) rfl (List.mem_of_getElem? (i := 3) rfl) (fun v16 => ?_)
    refine xv_iload_n rfl rfl hY dX4_readOne_65 rfl ?_
    refine xv_iald hY dX4_readOne_66 rfl (fun v17 => ?_)
    refine xv_iconst hY dX4_readOne_67 rfl ?_
    refine xv_icmp_eq (t := 81) hY dX4_readOne_68 (by decide) rfl ?_ ?_
    · refine xv_iconst hY dX4_readOne_81 rfl ?_
      exact xv_iretz hY hfl dX4_readOne_82 hret (Nat.le_of_ble_eq_true rfl) (Nat.le_of_ble_eq_true rfl)
    · refine xv_aload_n rfl rfl hY dX4_readOne_71 rfl ?_
      refine xv_aload_n rfl rfl hY dX4_readOne_72 rfl ?_
      refine xv_bipush (by decide) hY dX4_readOne_73 rfl ?_
      refine xv_callVI (ci := 4) (y := yX4_readSign) (ws := wsX4_readSign) (rm := rm_X4_readSign) (mc := 0) (ms := 0) (n := 2) (av := [xr a1, xi (44 : Int)]) hY dX4_readOne_75 rfl rfl rfl (by decide) (fun q hq => by rw [hfl]; exact S_X4_readSign Y.1.2.1 a0 a1 (44 : Int) M15 q hq) (cwV 2 hY.2.2.2.2.1 gX4_readOne_X4_readSign rfl rfl rfl (by decide +kernel) ⟨(by rw [hR]; exact Nat.le_of_ble_eq_true rfl), (by rw [hR]; exact Nat.le_of_ble_eq_true rfl)⟩) rfl (Nat.le_of_ble_eq_true rfl) ⟨(by rw [hR]; exact Nat.le_of_ble_eq_true rfl), (by rw [hR]; exact Nat.le_of_ble_eq_true rfl)⟩ (fun z19 M18 => ?_)
      refine xv_if_ne (t := 83) hY dX4_readOne_78 (by decide) rfl ?_ ?_
      · refine xv_aload_n rfl rfl hY dX4_readOne_83 rfl ?_
        refine xv_getP (ci := 4) (j := 2) hY dX4_readOne_84 rfl rfl rfl (by decide) hin4 (by decide) rfl (List.mem_of_getElem? (i := 4) rfl) (fun v20 => ?_)
        refine xv_iload_n rfl rfl hY dX4_readOne_87 rfl ?_
        refine xv_aload_n rfl rfl hY dX4_readOne_88 rfl ?_
        refine xv_aload_n rfl rfl hY dX4_readOne_89 rfl ?_
        refine xv_callVI (ci := 4) (y := yX4_readNumber) (ws := wsX4_readNumber) (rm := rm_X4_readNumber) (mc := 0) (ms := 0) (n := 1) (av := [xr a1]) hY dX4_readOne_90 rfl rfl rfl (by decide) (fun q hq => by rw [hfl]; exact S_X4_readNumber Y.1.2.1 a0 a1 M18 q hq) (cwV 1 hY.2.2.2.2.1 gX4_readOne_X4_readNumber rfl rfl rfl (by decide +kernel) ⟨(by rw [hR]; exact Nat.le_of_ble_eq_true rfl), (by rw [hR]; exact Nat.le_of_ble_eq_true rfl)⟩) rfl (Nat.le_of_ble_eq_true rfl) ⟨(by rw [hR]; exact Nat.le_of_ble_eq_true rfl), (by rw [hR]; exact Nat.le_of_ble_eq_true rfl)⟩ (fun z22 M21 => ?_)
        refine xv_iast hY hfl dX4_readOne_93 rfl (fun M23 => ?_)
        refine xv_aload_n rfl rfl hY dX4_readOne_94 rfl ?_
        refine xv_getP (ci := 4) (j := 2) hY dX4_readOne_95 rfl rfl rfl (by decide) hin4 (by decide) rfl (List.mem_of_getElem? (i := 4) rfl) (fun v24 => ?_)
        refine xv_iload_n rfl rfl hY dX4_readOne_98 rfl ?_
        refine xv_iald hY dX4_readOne_99 rfl (fun v25 => ?_)
        refine xv_iconst hY dX4_readOne_100 rfl ?_
        refine xv_icmp_ne (t := 106) hY dX4_readOne_101 (by decide) rfl ?_ ?_
        · refine xv_aload_n rfl rfl hY dX4_readOne_106 rfl ?_
          refine xv_getP (ci := 4) (j := 4) hY dX4_readOne_107 rfl rfl rfl (by decide) hin4 (by decide) rfl (List.mem_of_getElem? (i := 5) rfl) (fun v26 => ?_)
          refine xv_iload_n rfl rfl hY dX4_readOne_110 rfl ?_
          refine xv_aload_n rfl rfl hY dX4_readOne_111 rfl ?_
          refine xv_aload_n rfl rfl hY dX4_readOne_112 rfl ?_
          refine xv_getI (ci := 4) (j := 5) hY dX4_readOne_113 rfl rfl rfl (by decide) hin4 (by decide) rfl (List.mem_of_getElem? (i := 2) rfl) (fun v27 => ?_)
          refine xv_bipush (by decide) hY dX4_readOne_116 rfl ?_
          refine xv_callVI (ci := 7) (y := yX7_hasAt) (ws := wsX7_hasAt) (rm := rm_X7_hasAt) (mc := 0) (ms := 0) (n := 2) (av := [xi v27, xi (93 : Int)]) hY dX4_readOne_118 rfl rfl rfl (by decide) (fun q hq => by rw [hfl]; exact S_X7_hasAt Y.1.2.1 a1 v27 (93 : Int) M23 q hq) (cwV 2 hY.2.2.2.2.1 gX4_readOne_X7_hasAt rfl rfl rfl (by decide +kernel) ⟨(by rw [hR]; exact Nat.le_of_ble_eq_true rfl), (by rw [hR]; exact Nat.le_of_ble_eq_true rfl)⟩) rfl (Nat.le_of_ble_eq_true rfl) ⟨(by rw [hR]; exact Nat.le_of_ble_eq_true rfl), (by rw [hR]; exact Nat.le_of_ble_eq_true rfl)⟩ (fun z29 M28 => ?_)
          refine xv_zast hY hfl dX4_readOne_121 rfl (fun M30 => ?_)
          refine xv_aload_n rfl rfl hY dX4_readOne_122 rfl ?_
          refine xv_aload_n rfl rfl hY dX4_readOne_123 rfl ?_
          refine xv_aload_n rfl rfl hY dX4_readOne_124 rfl ?_
          refine xv_getP (ci := 4) (j := 4) hY dX4_readOne_125 rfl rfl rfl (by decide) hin4 (by decide) rfl (List.mem_of_getElem? (i := 5) rfl) (fun v31 => ?_)
          refine xv_iload_n rfl rfl hY dX4_readOne_128 rfl ?_
          refine xv_zald hY dX4_readOne_129 rfl (fun v32 => ?_)
          refine xv_if_eq (t := 138) hY dX4_readOne_130 (by decide) rfl ?_ ?_
          · refine xv_bipush (by decide) hY dX4_readOne_138 rfl ?_
            refine xv_callVI (ci := 4) (y := yX4_readSign) (ws := wsX4_readSign) (rm := rm_X4_readSign) (mc := 0) (ms := 0) (n := 2) (av := [xr a1, xi (41 : Int)]) hY dX4_readOne_140 rfl rfl rfl (by decide) (fun q hq => by rw [hfl]; exact S_X4_readSign Y.1.2.1 a0 a1 (41 : Int) M30 q hq) (cwV 2 hY.2.2.2.2.1 gX4_readOne_X4_readSign rfl rfl rfl (by decide +kernel) ⟨(by rw [hR]; exact Nat.le_of_ble_eq_true rfl), (by rw [hR]; exact Nat.le_of_ble_eq_true rfl)⟩) rfl (Nat.le_of_ble_eq_true rfl) ⟨(by rw [hR]; exact Nat.le_of_ble_eq_true rfl), (by rw [hR]; exact Nat.le_of_ble_eq_true rfl)⟩ (fun z34 M33 => ?_)
            exact xv_iretz hY hfl dX4_readOne_143 hret (Nat.le_of_ble_eq_true rfl) (Nat.le_of_ble_eq_true rfl)
          · refine xv_bipush (by decide) hY dX4_readOne_133 rfl ?_
            refine xv_goto (pc' := 140) hY dX4_readOne_135 (by decide) ?_
            refine xv_callVI (ci := 4) (y := yX4_readSign) (ws := wsX4_readSign) (rm := rm_X4_readSign) (mc := 0) (ms := 0) (n := 2) (av := [xr a1, xi (93 : Int)]) hY dX4_readOne_140 rfl rfl rfl (by decide) (fun q hq => by rw [hfl]; exact S_X4_readSign Y.1.2.1 a0 a1 (93 : Int) M30 q hq) (cwV 2 hY.2.2.2.2.1 gX4_readOne_X4_readSign rfl rfl rfl (by decide +kernel) ⟨(by rw [hR]; exact Nat.le_of_ble_eq_true rfl), (by rw [hR]; exact Nat.le_of_ble_eq_true rfl)⟩) rfl (Nat.le_of_ble_eq_true rfl) ⟨(by rw [hR]; exact Nat.le_of_ble_eq_true rfl), (by rw [hR]; exact Nat.le_of_ble_eq_true rfl)⟩ (fun z36 M35 => ?_)
            exact xv_iretz hY hfl dX4_readOne_143 hret (Nat.le_of_ble_eq_true rfl) (Nat.le_of_ble_eq_true rfl)
        · refine xv_iconst hY dX4_readOne_104 rfl ?_
          exact xv_iretz hY hfl dX4_readOne_105 hret (Nat.le_of_ble_eq_true rfl) (Nat.le_of_ble_eq_true rfl)
      · refine xv_iconst hY dX4_readOne_81 rfl ?_
        exact xv_iretz hY hfl dX4_readOne_82 hret (Nat.le_of_ble_eq_true rfl) (Nat.le_of_ble_eq_true rfl)
  · refine xv_if_ne (t := 40) hY dX4_readOne_22 (by decide) rfl ?_ ?_
    · exact xv_mk (L' := [some (xr a0), some (xr a1), some (xi a2)]) [true, true, true] rfl (hj9 M5)
    · refine xv_aload_n rfl rfl hY dX4_readOne_25 rfl ?_
      refine xv_aload_n rfl rfl hY dX4_readOne_26 rfl ?_
      refine xv_getI (ci := 4) (j := 5) hY dX4_readOne_27 rfl rfl rfl (by decide) hin4 (by decide) rfl (List.mem_of_getElem? (i := 2) rfl) (fun v37 => ?_)
      refine xv_bipush (by decide) hY dX4_readOne_30 rfl ?_
      refine xv_callVI (ci := 7) (y := yX7_hasAt) (ws := wsX7_hasAt) (rm := rm_X7_hasAt) (mc := 0) (ms := 0) (n := 2) (av := [xi v37, xi (40 : Int)]) hY dX4_readOne_32 rfl rfl rfl (by decide) (fun q hq => by rw [hfl]; exact S_X7_hasAt Y.1.2.1 a1 v37 (40 : Int) M5 q hq) (cwV 2 hY.2.2.2.2.1 gX4_readOne_X7_hasAt rfl rfl rfl (by decide +kernel) ⟨(by rw [hR]; exact Nat.le_of_ble_eq_true rfl), (by rw [hR]; exact Nat.le_of_ble_eq_true rfl)⟩) rfl (Nat.le_of_ble_eq_true rfl) ⟨(by rw [hR]; exact Nat.le_of_ble_eq_true rfl), (by rw [hR]; exact Nat.le_of_ble_eq_true rfl)⟩ (fun z39 M38 => ?_)
      refine xv_if_ne (t := 40) hY dX4_readOne_35 (by decide) rfl ?_ ?_
      · exact xv_mk (L' := [some (xr a0), some (xr a1), some (xi a2)]) [true, true, true] rfl (hj9 M38)
      · refine xv_iconst hY dX4_readOne_38 rfl ?_
        exact xv_iretz hY hfl dX4_readOne_39 hret (Nat.le_of_ble_eq_true rfl) (Nat.le_of_ble_eq_true rfl)
set_option maxHeartbeats 4000000 in
set_option maxRecDepth 100000 in
theorem S_X4_readRow (l : Launch) (a0 : Nat) (a1 : Nat) (M : xv_M) (q : Int × xv_M) (h : D_X4_readRow a0 a1 M = some q) : xv_Met l yX4_readRow wsX4_readRow rm_X4_readRow 0 0 false [xr a0, xr a1] M (xv_qI false q) := by
  refine xv_enter (cc := cX4_readRow) (nL := 3) (ret := (some .int)) rfl (by decide +kernel) (Nat.le_of_ble_eq_true rfl) h ?_
  intro Y hY0 hl hR hnL hfl hret hnm0
  have hY : xv_ok Y cX4_readRow wsX4_readRow RX4 := hY0
  have hin4 : ∀ w ∈ u_ws RX4 TX4 6, w ∈ wsX4_readRow := fun _ h => List.mem_cons_of_mem _ (List.mem_append_left _ (List.mem_append_right _ h))
  have hin7 : ∀ w ∈ u_ws RX7 TX7 2, w ∈ wsX4_readRow := fun _ h => List.mem_cons_of_mem _ (List.mem_append_right _ h)
  unfold D_X4_readRow
  refine xv_mk (L' := [some (xr a0), some (xr a1), none]) [true, true, true] rfl ?_
  refine xv_aload_n rfl rfl hY dX4_readRow_0 rfl ?_
  refine xv_iconst hY dX4_readRow_1 rfl ?_
  refine xv_putI (ci := 4) (j := 0) hY dX4_readRow_2 rfl rfl rfl (by decide) hin4 (by decide) rfl (List.mem_of_getElem? (i := 1) rfl) tyX4_ok nmX4 (Or.inl rfl) rfl (fun M1 => ?_)
  refine xv_aload_n rfl rfl hY dX4_readRow_5 rfl ?_
  refine xv_iconst hY dX4_readRow_6 rfl ?_
  refine xv_putI (ci := 4) (j := 5) hY dX4_readRow_7 rfl rfl rfl (by decide) hin4 (by decide) rfl (List.mem_of_getElem? (i := 2) rfl) tyX4_ok nmX4 (Or.inl rfl) rfl (fun M2 => ?_)
  refine xv_iconst hY dX4_readRow_10 rfl ?_
  refine xv_istore_n (L' := [some (xr a0), some (xr a1), some (xi (0 : Int))]) hY dX4_readRow_11 rfl rfl (by rw [hnL]; decide) rfl rfl ?_
  refine xv_mk (L' := [some (xr a0), some (xr a1), some (xi (0 : Int))]) [true, true, true] rfl ?_
  refine xv_loop (σ := Int × xv_M) (fun x3 => [some (xr a0), some (xr a1), some (xi x3.1)]) (fun x3 => x3.2) (fun f4 hf4 x3 => ?_) xv_fuel ((0 : Int), M2)
  refine xv_iload_n rfl rfl hY dX4_readRow_12 rfl ?_
  refine xv_bipush (by decide) hY dX4_readRow_13 rfl ?_
  refine xv_icmp_ge (t := 76) hY dX4_readRow_15 (by decide) rfl ?_ ?_
  · refine xv_aload_n rfl rfl hY dX4_readRow_76 rfl ?_
    refine xv_getI (ci := 4) (j := 5) hY dX4_readRow_77 rfl rfl rfl (by decide) hin4 (by decide) rfl (List.mem_of_getElem? (i := 2) rfl) (fun v5 => ?_)
    exact xv_ireti hY hfl dX4_readRow_80 hret (Nat.le_of_ble_eq_true rfl) (Nat.le_of_ble_eq_true rfl)
  · refine xv_aload_n rfl rfl hY dX4_readRow_18 rfl ?_
    refine xv_aload_n rfl rfl hY dX4_readRow_19 rfl ?_
    refine xv_iload_n rfl rfl hY dX4_readRow_20 rfl ?_
    refine xv_callVI (ci := 4) (y := yX4_readOne) (ws := wsX4_readOne) (rm := rm_X4_readOne) (mc := 0) (ms := 0) (n := 2) (av := [xr a1, xi x3.1]) hY dX4_readRow_21 rfl rfl rfl (by decide) (fun q hq => by rw [hfl]; exact S_X4_readOne Y.1.2.1 a0 a1 x3.1 x3.2 q hq) (cwV 2 hY.2.2.2.2.1 gX4_readRow_X4_readOne rfl rfl rfl (by decide +kernel) ⟨(by rw [hR]; exact Nat.le_of_ble_eq_true rfl), (by rw [hR]; exact Nat.le_of_ble_eq_true rfl)⟩) rfl (Nat.le_of_ble_eq_true rfl) ⟨(by rw [hR]; exact Nat.le_of_ble_eq_true rfl), (by rw [hR]; exact Nat.le_of_ble_eq_true rfl)⟩ (fun z7 M6 => ?_)
    refine xv_if_ne (t := 32) hY dX4_readRow_24 (by decide) rfl ?_ ?_
    · refine xv_aload_n rfl rfl hY dX4_readRow_32 rfl ?_
      refine xv_dupr hY dX4_readRow_33 rfl ?_
      refine xv_getI (ci := 4) (j := 0) hY dX4_readRow_34 rfl rfl rfl (by decide) hin4 (by decide) rfl (List.mem_of_getElem? (i := 1) rfl) (fun v8 => ?_)
      refine xv_iconst hY dX4_readRow_37 rfl ?_
      refine xv_iadd hY dX4_readRow_38 rfl ?_
      refine xv_putI (ci := 4) (j := 0) hY dX4_readRow_39 rfl rfl rfl (by decide) hin4 (by decide) rfl (List.mem_of_getElem? (i := 1) rfl) tyX4_ok nmX4 (Or.inl rfl) rfl (fun M9 => ?_)
      refine xv_aload_n rfl rfl hY dX4_readRow_42 rfl ?_
      refine xv_getI (ci := 4) (j := 5) hY dX4_readRow_43 rfl rfl rfl (by decide) hin4 (by decide) rfl (List.mem_of_getElem? (i := 2) rfl) (fun v10 => ?_)
      refine xv_aload_n rfl rfl hY dX4_readRow_46 rfl ?_
      refine xv_getI (ci := 7) (j := 0) hY dX4_readRow_47 rfl rfl rfl (by decide) hin7 (by decide) rfl (List.mem_of_getElem? (i := 3) rfl) (fun v11 => ?_)
      refine xv_icmp_ne (t := 55) hY dX4_readRow_50 (by decide) rfl ?_ ?_
      · refine xv_aload_n rfl rfl hY dX4_readRow_55 rfl ?_
        refine xv_aload_n rfl rfl hY dX4_readRow_56 rfl ?_
        refine xv_bipush (by decide) hY dX4_readRow_57 rfl ?_
        refine xv_callVI (ci := 4) (y := yX4_readSign) (ws := wsX4_readSign) (rm := rm_X4_readSign) (mc := 0) (ms := 0) (n := 2) (av := [xr a1, xi (59 : Int)]) hY dX4_readRow_59 rfl rfl rfl (by decide) (fun q hq => by rw [hfl]; exact S_X4_readSign Y.1.2.1 a0 a1 (59 : Int) M9 q hq) (cwV 2 hY.2.2.2.2.1 gX4_readRow_X4_readSign rfl rfl rfl (by decide +kernel) ⟨(by rw [hR]; exact Nat.le_of_ble_eq_true rfl), (by rw [hR]; exact Nat.le_of_ble_eq_true rfl)⟩) rfl (Nat.le_of_ble_eq_true rfl) ⟨(by rw [hR]; exact Nat.le_of_ble_eq_true rfl), (by rw [hR]; exact Nat.le_of_ble_eq_true rfl)⟩ (fun z13 M12 => ?_)
        refine xv_if_ne (t := 70) hY dX4_readRow_62 (by decide) rfl ?_ ?_
        · refine xv_iinc (L' := [some (xr a0), some (xr a1), some (xi (x3.1 + 1))]) hY dX4_readRow_70 rfl (by rw [hnL]; decide) rfl rfl rfl ?_
          refine xv_goto (pc' := 12) hY dX4_readRow_73 (by decide) ?_
          exact xv_mk (L' := [some (xr a0), some (xr a1), some (xi (x3.1 + 1))]) [true, true, true] rfl (hf4 ((x3.1 + 1), M12))
        · refine xv_aload_n rfl rfl hY dX4_readRow_65 rfl ?_
          refine xv_getI (ci := 4) (j := 5) hY dX4_readRow_66 rfl rfl rfl (by decide) hin4 (by decide) rfl (List.mem_of_getElem? (i := 2) rfl) (fun v14 => ?_)
          exact xv_ireti hY hfl dX4_readRow_69 hret (Nat.le_of_ble_eq_true rfl) (Nat.le_of_ble_eq_true rfl)
      · refine xv_iconst hY dX4_readRow_53 rfl ?_
        exact xv_ireti hY hfl dX4_readRow_54 hret (Nat.le_of_ble_eq_true rfl) (Nat.le_of_ble_eq_true rfl)
    · refine xv_aload_n rfl rfl hY dX4_readRow_27 rfl ?_
      refine xv_getI (ci := 4) (j := 5) hY dX4_readRow_28 rfl rfl rfl (by decide) hin4 (by decide) rfl (List.mem_of_getElem? (i := 2) rfl) (fun v15 => ?_)
      exact xv_ireti hY hfl dX4_readRow_31 hret (Nat.le_of_ble_eq_true rfl) (Nat.le_of_ble_eq_true rfl)
set_option maxHeartbeats 4000000 in
set_option maxRecDepth 100000 in
theorem S_X4_allAreSpans (l : Launch) (a0 : Nat) (M : xv_M) (q : Int × xv_M) (h : D_X4_allAreSpans a0 M = some q) : xv_Met l yX4_allAreSpans wsX4_allAreSpans rm_X4_allAreSpans 0 0 false [xr a0] M (xv_qI false q) := by
  refine xv_enter (cc := cX4_allAreSpans) (nL := 4) (ret := (some .boolean)) rfl (by decide +kernel) (Nat.le_of_ble_eq_true rfl) h ?_
  intro Y hY0 hl hR hnL hfl hret hnm0
  have hY : xv_ok Y cX4_allAreSpans wsX4_allAreSpans RX4 := hY0
  have hin4 : ∀ w ∈ u_ws RX4 TX4 6, w ∈ wsX4_allAreSpans := fun _ h => List.mem_cons_of_mem _ (List.mem_append_right _ h)
  unfold D_X4_allAreSpans
  refine xv_mk (L' := [some (xr a0), none, none, none]) [true, true, true, true] rfl ?_
  refine xv_iconst hY dX4_allAreSpans_0 rfl ?_
  refine xv_istore_n (L' := [some (xr a0), some (xi (0 : Int)), none, none]) hY dX4_allAreSpans_1 rfl rfl (by rw [hnL]; decide) rfl rfl ?_
  refine xv_mk (L' := [some (xr a0), some (xi (0 : Int)), none, none]) [true, true, false, false] rfl ?_
  refine xv_loop (σ := Int) (fun x1 => [some (xr a0), some (xi x1), none, none]) (fun x1 => M) (fun f2 hf2 x1 => ?_) xv_fuel (0 : Int)
  refine xv_iload_n rfl rfl hY dX4_allAreSpans_2 rfl ?_
  refine xv_aload_n rfl rfl hY dX4_allAreSpans_3 rfl ?_
  refine xv_getI (ci := 4) (j := 0) hY dX4_allAreSpans_4 rfl rfl rfl (by decide) hin4 (by decide) rfl (List.mem_of_getElem? (i := 1) rfl) (fun v3 => ?_)
  refine xv_icmp_ge (t := 116) hY dX4_allAreSpans_7 (by decide) rfl ?_ ?_
  · refine xv_iconst hY dX4_allAreSpans_116 rfl ?_
    exact xv_iretz hY hfl dX4_allAreSpans_117 hret (Nat.le_of_ble_eq_true rfl) (Nat.le_of_ble_eq_true rfl)
  · refine xv_aload_n rfl rfl hY dX4_allAreSpans_10 rfl ?_
    refine xv_getP (ci := 4) (j := 3) hY dX4_allAreSpans_11 rfl rfl rfl (by decide) hin4 (by decide) rfl (List.mem_of_getElem? (i := 2) rfl) (fun v4 => ?_)
    refine xv_iload_n rfl rfl hY dX4_allAreSpans_14 rfl ?_
    refine xv_zald hY dX4_allAreSpans_15 rfl (fun v5 => ?_)
    refine xv_join (α := Int) 36 (fun x6 => [some (xr a0), some (xi x1), none, none]) (fun x6 => [xi x6]) (fun x6 => M) (fun x6 => ?_) (fun j7 hj7 => ?_)
    · refine xv_istore_n (L' := [some (xr a0), some (xi x1), some (xi x6), none]) hY dX4_allAreSpans_36 rfl rfl (by rw [hnL]; decide) rfl rfl ?_
      refine xv_aload_n rfl rfl hY dX4_allAreSpans_37 rfl ?_
      refine xv_getP (ci := 4) (j := 4) hY dX4_allAreSpans_38 rfl rfl rfl (by decide) hin4 (by decide) rfl (List.mem_of_getElem? (i := 4) rfl) (fun v8 => ?_)
      refine xv_iload_n rfl rfl hY dX4_allAreSpans_41 rfl ?_
      refine xv_zald hY dX4_allAreSpans_42 rfl (fun v9 => ?_)
      refine xv_join (α := Int) 63 (fun x10 => [some (xr a0), some (xi x1), some (xi x6), none]) (fun x10 => [xi x10]) (fun x10 => M) (fun x10 => ?_) (fun j11 hj11 => ?_)
      · refine xv_istore_n (L' := [some (xr a0), some (xi x1), some (xi x6), some (xi x10)]) hY dX4_allAreSpans_63 rfl rfl (by rw [hnL]; decide) rfl rfl ?_
        refine xv_aload_n rfl rfl hY dX4_allAreSpans_64 rfl ?_
        refine xv_getP (ci := 4) (j := 1) hY dX4_allAreSpans_65 rfl rfl rfl (by decide) hin4 (by decide) rfl (List.mem_of_getElem? (i := 3) rfl) (fun v12 => ?_)
        refine xv_iload_n rfl rfl hY dX4_allAreSpans_68 rfl ?_
        refine xv_iald hY dX4_allAreSpans_69 rfl (fun v13 => ?_)
        refine xv_sipush (by decide) hY dX4_allAreSpans_70 rfl ?_
        refine xv_icmp_gt (t := 108) hY dX4_allAreSpans_73 (by decide) rfl ?_ ?_
        · refine xv_iconst hY dX4_allAreSpans_108 rfl ?_
          exact xv_iretz hY hfl dX4_allAreSpans_109 hret (Nat.le_of_ble_eq_true rfl) (Nat.le_of_ble_eq_true rfl)
        · refine xv_aload_n rfl rfl hY dX4_allAreSpans_76 rfl ?_
          refine xv_getP (ci := 4) (j := 2) hY dX4_allAreSpans_77 rfl rfl rfl (by decide) hin4 (by decide) rfl (List.mem_of_getElem? (i := 5) rfl) (fun v14 => ?_)
          refine xv_iload_n rfl rfl hY dX4_allAreSpans_80 rfl ?_
          refine xv_iald hY dX4_allAreSpans_81 rfl (fun v15 => ?_)
          refine xv_sipush (by decide) hY dX4_allAreSpans_82 rfl ?_
          refine xv_icmp_gt (t := 108) hY dX4_allAreSpans_85 (by decide) rfl ?_ ?_
          · refine xv_iconst hY dX4_allAreSpans_108 rfl ?_
            exact xv_iretz hY hfl dX4_allAreSpans_109 hret (Nat.le_of_ble_eq_true rfl) (Nat.le_of_ble_eq_true rfl)
          · refine xv_aload_n rfl rfl hY dX4_allAreSpans_88 rfl ?_
            refine xv_getP (ci := 4) (j := 2) hY dX4_allAreSpans_89 rfl rfl rfl (by decide) hin4 (by decide) rfl (List.mem_of_getElem? (i := 5) rfl) (fun v16 => ?_)
            refine xv_iload_n rfl rfl hY dX4_allAreSpans_92 rfl ?_
            refine xv_iald hY dX4_allAreSpans_93 rfl (fun v17 => ?_)
            refine xv_aload_n rfl rfl hY dX4_allAreSpans_94 rfl ?_
            refine xv_getP (ci := 4) (j := 1) hY dX4_allAreSpans_95 rfl rfl rfl (by decide) hin4 (by decide) rfl (List.mem_of_getElem? (i := 3) rfl) (fun v18 => ?_)
            refine xv_iload_n rfl rfl hY dX4_allAreSpans_98 rfl ?_
            refine xv_iald hY dX4_allAreSpans_99 rfl (fun v19 => ?_)
            refine xv_icmp_lt (t := 108) hY dX4_allAreSpans_100 (by decide) rfl ?_ ?_
            · refine xv_iconst hY dX4_allAreSpans_108 rfl ?_
              exact xv_iretz hY hfl dX4_allAreSpans_109 hret (Nat.le_of_ble_eq_true rfl) (Nat.le_of_ble_eq_true rfl)
            · refine xv_iload_n rfl rfl hY dX4_allAreSpans_103 rfl ?_
              refine xv_iload_n rfl rfl hY dX4_allAreSpans_104 rfl ?_
              refine xv_icmp_le (t := 110) hY dX4_allAreSpans_105 (by decide) rfl ?_ ?_
              · refine xv_iinc (L' := [some (xr a0), some (xi (x1 + 1)), some (xi x6), some (xi x10)]) hY dX4_allAreSpans_110 rfl (by rw [hnL]; decide) rfl rfl rfl ?_
                refine xv_goto (pc' := 2) hY dX4_allAreSpans_113 (by decide) ?_
                exact xv_mk (L' := [some (xr a0), some (xi (x1 + 1)), none, none]) [true, true, false, false] rfl (hf2 (x1 + 1))
              · refine xv_iconst hY dX4_allAreSpans_108 rfl ?_
                exact xv_iretz hY hfl dX4_allAreSpans_109 hret (Nat.le_of_ble_eq_true rfl) (Nat.le_of_ble_eq_true rfl)
      · refine xv_if_eq (t := 55) hY dX4_allAreSpans_43 (by decide) rfl ?_ ?_
        · refine xv_aload_n rfl rfl hY dX4_allAreSpans_55 rfl ?_
          refine xv_getP (ci := 4) (j := 2) hY dX4_allAreSpans_56 rfl rfl rfl (by decide) hin4 (by decide) rfl (List.mem_of_getElem? (i := 5) rfl) (fun v20 => ?_)
          refine xv_iload_n rfl rfl hY dX4_allAreSpans_59 rfl ?_
          refine xv_iald hY dX4_allAreSpans_60 rfl (fun v21 => ?_)
          refine xv_iconst hY dX4_allAreSpans_61 rfl ?_
          refine xv_isub hY dX4_allAreSpans_62 rfl ?_
          exact xv_mk (L' := [some (xr a0), some (xi x1), some (xi x6), none]) [true, true, true, false] rfl (hj11 (v21 - (1 : Int)))
        · refine xv_aload_n rfl rfl hY dX4_allAreSpans_46 rfl ?_
          refine xv_getP (ci := 4) (j := 2) hY dX4_allAreSpans_47 rfl rfl rfl (by decide) hin4 (by decide) rfl (List.mem_of_getElem? (i := 5) rfl) (fun v22 => ?_)
          refine xv_iload_n rfl rfl hY dX4_allAreSpans_50 rfl ?_
          refine xv_iald hY dX4_allAreSpans_51 rfl (fun v23 => ?_)
          refine xv_goto (pc' := 63) hY dX4_allAreSpans_52 (by decide) ?_
          exact xv_mk (L' := [some (xr a0), some (xi x1), some (xi x6), none]) [true, true, true, false] rfl (hj11 v23)
    · refine xv_if_eq (t := 28) hY dX4_allAreSpans_16 (by decide) rfl ?_ ?_
      · refine xv_aload_n rfl rfl hY dX4_allAreSpans_28 rfl ?_
        refine xv_getP (ci := 4) (j := 1) hY dX4_allAreSpans_29 rfl rfl rfl (by decide) hin4 (by decide) rfl (List.mem_of_getElem? (i := 3) rfl) (fun v24 => ?_)
        refine xv_iload_n rfl rfl hY dX4_allAreSpans_32 rfl ?_
        refine xv_iald hY dX4_allAreSpans_33 rfl (fun v25 => ?_)
        refine xv_iconst hY dX4_allAreSpans_34 rfl ?_
        refine xv_iadd hY dX4_allAreSpans_35 rfl ?_
        exact xv_mk (L' := [some (xr a0), some (xi x1), none, none]) [true, true, false, false] rfl (hj7 (v25 + (1 : Int)))
      · refine xv_aload_n rfl rfl hY dX4_allAreSpans_19 rfl ?_
        refine xv_getP (ci := 4) (j := 1) hY dX4_allAreSpans_20 rfl rfl rfl (by decide) hin4 (by decide) rfl (List.mem_of_getElem? (i := 3) rfl) (fun v26 => ?_)
        refine xv_iload_n rfl rfl hY dX4_allAreSpans_23 rfl ?_
        refine xv_iald hY dX4_allAreSpans_24 rfl (fun v27 => ?_)
        refine xv_goto (pc' := 36) hY dX4_allAreSpans_25 (by decide) ?_
        exact xv_mk (L' := [some (xr a0), some (xi x1), none, none]) [true, true, false, false] rfl (hj7 v27)
set_option maxHeartbeats 4000000 in
set_option maxRecDepth 100000 in
theorem S_X5_has (l : Launch) (a0 : Nat) (a1 : Int) (M : xv_M) (q : Int × xv_M) (h : D_X5_has a0 a1 M = some q) : xv_Met l yX5_has wsX5_has rm_X5_has 0 0 false [xr a0, xi a1] M (xv_qI false q) := by
  refine xv_enter (cc := cX5_has) (nL := 2) (ret := (some .boolean)) rfl (by decide +kernel) (Nat.le_of_ble_eq_true rfl) h ?_
  intro Y hY0 hl hR hnL hfl hret hnm0
  have hY : xv_ok Y cX5_has wsX5_has RX5 := hY0
  have hin5 : ∀ w ∈ u_ws RX5 TX5 8, w ∈ wsX5_has := fun _ h => List.mem_cons_of_mem _ (List.mem_append_right _ h)
  unfold D_X5_has
  refine xv_mk (L' := [some (xr a0), some (xi a1)]) [true, true] rfl ?_
  refine xv_iload_n rfl rfl hY dX5_has_0 rfl ?_
  refine xv_if_lt (t := 24) hY dX5_has_1 (by decide) rfl ?_ ?_
  · refine xv_iconst hY dX5_has_24 rfl ?_
    exact xv_iretz hY hfl dX5_has_25 hret (Nat.le_of_ble_eq_true rfl) (Nat.le_of_ble_eq_true rfl)
  · refine xv_iload_n rfl rfl hY dX5_has_4 rfl ?_
    refine xv_aload_n rfl rfl hY dX5_has_5 rfl ?_
    refine xv_getI (ci := 5) (j := 0) hY dX5_has_6 rfl rfl rfl (by decide) hin5 (by decide) rfl (List.mem_of_getElem? (i := 1) rfl) (fun v1 => ?_)
    refine xv_icmp_ge (t := 24) hY dX5_has_9 (by decide) rfl ?_ ?_
    · refine xv_iconst hY dX5_has_24 rfl ?_
      exact xv_iretz hY hfl dX5_has_25 hret (Nat.le_of_ble_eq_true rfl) (Nat.le_of_ble_eq_true rfl)
    · refine xv_aload_n rfl rfl hY dX5_has_12 rfl ?_
      refine xv_iload_n rfl rfl hY dX5_has_13 rfl ?_
      refine xv_callVI (ci := 5) (y := yX5_isThere) (ws := wsX5_isThere) (rm := rm_X5_isThere) (mc := 0) (ms := 0) (n := 1) (av := [xi a1]) hY dX5_has_14 rfl rfl rfl (by decide) (fun q hq => by rw [hfl]; exact S_X5_isThere Y.1.2.1 a0 a1 M q hq) (cwV 1 hY.2.2.2.2.1 gX5_has_X5_isThere rfl rfl rfl (by decide +kernel) ⟨(by rw [hR]; exact Nat.le_of_ble_eq_true rfl), (by rw [hR]; exact Nat.le_of_ble_eq_true rfl)⟩) rfl (Nat.le_of_ble_eq_true rfl) ⟨(by rw [hR]; exact Nat.le_of_ble_eq_true rfl), (by rw [hR]; exact Nat.le_of_ble_eq_true rfl)⟩ (fun z3 M2 => ?_)
      refine xv_if_eq (t := 24) hY dX5_has_17 (by decide) rfl ?_ ?_
      · refine xv_iconst hY dX5_has_24 rfl ?_
        exact xv_iretz hY hfl dX5_has_25 hret (Nat.le_of_ble_eq_true rfl) (Nat.le_of_ble_eq_true rfl)
      · refine xv_iconst hY dX5_has_20 rfl ?_
        refine xv_goto (pc' := 25) hY dX5_has_21 (by decide) ?_
        exact xv_iretz hY hfl dX5_has_25 hret (Nat.le_of_ble_eq_true rfl) (Nat.le_of_ble_eq_true rfl)
set_option maxHeartbeats 4000000 in
set_option maxRecDepth 100000 in
theorem S_X5_countThere (l : Launch) (a0 : Nat) (M : xv_M) (q : Int × xv_M) (h : D_X5_countThere a0 M = some q) : xv_Met l yX5_countThere wsX5_countThere rm_X5_countThere 0 0 false [xr a0] M (xv_qI false q) := by
  refine xv_enter (cc := cX5_countThere) (nL := 1) (ret := (some .int)) rfl (by decide +kernel) (Nat.le_of_ble_eq_true rfl) h ?_
  intro Y hY0 hl hR hnL hfl hret hnm0
  have hY : xv_ok Y cX5_countThere wsX5_countThere RX5 := hY0
  have hin5 : ∀ w ∈ u_ws RX5 TX5 8, w ∈ wsX5_countThere := fun _ h => List.mem_cons_of_mem _ (List.mem_append_right _ h)
  unfold D_X5_countThere
  refine xv_mk (L' := [some (xr a0)]) [true] rfl ?_
  refine xv_aload_n rfl rfl hY dX5_countThere_0 rfl ?_
  refine xv_getJ (ci := 5) (j := 1) hY dX5_countThere_1 rfl rfl rfl (by decide) hin5 (by decide) rfl (List.mem_of_getElem? (i := 1) rfl) (fun v1 => ?_)
  refine xv_callSI (y := yJ13_bitCount_95d88) (ws := wsJ13_bitCount_95d88) (rm := rm_J13_bitCount_95d88) (mc := 0) (ms := 0) (n := 1) (av := [xl v1]) hY dX5_countThere_4 rfl rfl (fun q hq => by rw [hfl]; exact S_J13_bitCount_95d88 Y.1.2.1 v1 M q hq) (va_cwS 1 hY.2.2.2.2.1 gX5_countThere_J13_bitCount_95d88 rfl rfl rfl (by decide +kernel) ⟨(by rw [hR]; exact Nat.le_of_ble_eq_true rfl), (by rw [hR]; exact Nat.le_of_ble_eq_true rfl)⟩) rfl (Nat.le_of_ble_eq_true rfl) ⟨(by rw [hR]; exact Nat.le_of_ble_eq_true rfl), (by rw [hR]; exact Nat.le_of_ble_eq_true rfl)⟩ (fun z3 M2 => ?_)
  exact xv_ireti hY hfl dX5_countThere_7 hret (Nat.le_of_ble_eq_true rfl) (Nat.le_of_ble_eq_true rfl)
