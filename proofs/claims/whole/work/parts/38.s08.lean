set_option maxHeartbeats 4000000 in
set_option maxRecDepth 100000 in
theorem S_X12_spansOfText (l : Launch) (a0 : Nat) (M : xv_M) (q : Int × xv_M) (h : D_X12_spansOfText a0 M = some q) : xv_Met l yX12_spansOfText wsX12_spansOfText rm_X12_spansOfText 0 0 false [xr a0] M (xv_qI false q) := by
  refine xv_enter (cc := cX12_spansOfText) (nL := 3) (ret := (some .int)) rfl (by decide +kernel) (Nat.le_of_ble_eq_true rfl) h ?_
  intro Y hY0 hl hR hnL hfl hret hnm0
  have hY : xv_ok Y cX12_spansOfText wsX12_spansOfText RX12 := hY0
  have hin12 : ∀ w ∈ u_ws RX12 TX12 18, w ∈ wsX12_spansOfText := fun _ h => List.mem_cons_of_mem _ (List.mem_append_right _ h)
  unfold D_X12_spansOfText
  refine xv_mk (L' := [some (xr a0), none, none]) [true, true, true] rfl ?_
  refine xv_aload_n rfl rfl hY dX12_spansOfText_0 rfl ?_
  refine xv_iconst hY dX12_spansOfText_1 rfl ?_
  refine xv_putI (ci := 12) (j := 7) hY dX12_spansOfText_2 rfl rfl rfl (by decide) hin12 (by decide) rfl (List.mem_of_getElem? (i := 1) rfl) tyX12_ok nmX12 (Or.inl rfl) rfl (fun M1 => ?_)
  refine xv_iconst hY dX12_spansOfText_5 rfl ?_
  refine xv_istore_n (L' := [some (xr a0), some (xi (0 : Int)), none]) hY dX12_spansOfText_6 rfl rfl (by rw [hnL]; decide) rfl rfl ?_
  refine xv_iconst hY dX12_spansOfText_7 rfl ?_
  refine xv_istore_n (L' := [some (xr a0), some (xi (0 : Int)), some (xi (1 : Int))]) hY dX12_spansOfText_8 rfl rfl (by rw [hnL]; decide) rfl rfl ?_
  refine xv_mk (L' := [some (xr a0), some (xi (0 : Int)), some (xi (1 : Int))]) [true, true, true] rfl ?_
  refine xv_loop (σ := Int × Int × xv_M) (fun x2 => [some (xr a0), some (xi x2.1), some (xi x2.2.1)]) (fun x2 => x2.2.2) (fun f3 hf3 x2 => ?_) xv_fuel ((0 : Int), (1 : Int), M1)
  refine xv_iload_n rfl rfl hY dX12_spansOfText_9 rfl ?_
  refine xv_if_eq (t := 59) hY dX12_spansOfText_10 (by decide) rfl ?_ ?_
  · refine xv_iload_n rfl rfl hY dX12_spansOfText_59 rfl ?_
    exact xv_ireti hY hfl dX12_spansOfText_60 hret (Nat.le_of_ble_eq_true rfl) (Nat.le_of_ble_eq_true rfl)
  · refine xv_aload_n rfl rfl hY dX12_spansOfText_13 rfl ?_
    refine xv_callVI (ci := 12) (y := yX12_takesSpan) (ws := wsX12_takesSpan) (rm := rm_X12_takesSpan) (mc := 0) (ms := 0) (n := 0) (av := []) hY dX12_spansOfText_14 rfl rfl rfl (by decide) (fun q hq => by rw [hfl]; exact S_X12_takesSpan Y.1.2.1 a0 x2.2.2 q hq) (cwV 0 hY.2.2.2.2.1 gX12_spansOfText_X12_takesSpan rfl rfl rfl (by decide +kernel) ⟨(by rw [hR]; exact Nat.le_of_ble_eq_true rfl), (by rw [hR]; exact Nat.le_of_ble_eq_true rfl)⟩) rfl (Nat.le_of_ble_eq_true rfl) ⟨(by rw [hR]; exact Nat.le_of_ble_eq_true rfl), (by rw [hR]; exact Nat.le_of_ble_eq_true rfl)⟩ (fun z5 M4 => ?_)
    refine xv_if_ne (t := 23) hY dX12_spansOfText_17 (by decide) rfl ?_ ?_
    · refine xv_iinc (L' := [some (xr a0), some (xi (x2.1 + 1)), some (xi x2.2.1)]) hY dX12_spansOfText_23 rfl (by rw [hnL]; decide) rfl rfl rfl ?_
      refine xv_aload_n rfl rfl hY dX12_spansOfText_26 rfl ?_
      refine xv_getI (ci := 12) (j := 7) hY dX12_spansOfText_27 rfl rfl rfl (by decide) hin12 (by decide) rfl (List.mem_of_getElem? (i := 1) rfl) (fun v6 => ?_)
      refine xv_aload_n rfl rfl hY dX12_spansOfText_30 rfl ?_
      refine xv_getI (ci := 12) (j := 5) hY dX12_spansOfText_31 rfl rfl rfl (by decide) hin12 (by decide) rfl (List.mem_of_getElem? (i := 2) rfl) (fun v7 => ?_)
      refine xv_join (α := Int) 42 (fun x8 => [some (xr a0), some (xi (x2.1 + 1)), none]) (fun x8 => [xi x8]) (fun x8 => M4) (fun x8 => ?_) (fun j9 hj9 => ?_)
      · refine xv_istore_n (L' := [some (xr a0), some (xi (x2.1 + 1)), some (xi x8)]) hY dX12_spansOfText_42 rfl rfl (by rw [hnL]; decide) rfl rfl ?_
        refine xv_iload_n rfl rfl hY dX12_spansOfText_43 rfl ?_
        refine xv_if_eq (t := 9) hY dX12_spansOfText_44 (by decide) rfl ?_ ?_
        · exact xv_mk (L' := [some (xr a0), some (xi (x2.1 + 1)), some (xi x8)]) [true, true, true] rfl (hf3 ((x2.1 + 1), x8, M4))
        · refine xv_aload_n rfl rfl hY dX12_spansOfText_47 rfl ?_
          refine xv_bipush (by decide) hY dX12_spansOfText_48 rfl ?_
          refine xv_callVI (ci := 12) (y := yX12_takes) (ws := wsX12_takes) (rm := rm_X12_takes) (mc := 0) (ms := 0) (n := 1) (av := [xi (59 : Int)]) hY dX12_spansOfText_50 rfl rfl rfl (by decide) (fun q hq => by rw [hfl]; exact S_X12_takes Y.1.2.1 a0 (59 : Int) M4 q hq) (cwV 1 hY.2.2.2.2.1 gX12_spansOfText_X12_takes rfl rfl rfl (by decide +kernel) ⟨(by rw [hR]; exact Nat.le_of_ble_eq_true rfl), (by rw [hR]; exact Nat.le_of_ble_eq_true rfl)⟩) rfl (Nat.le_of_ble_eq_true rfl) ⟨(by rw [hR]; exact Nat.le_of_ble_eq_true rfl), (by rw [hR]; exact Nat.le_of_ble_eq_true rfl)⟩ (fun z11 M10 => ?_)
          refine xv_if_ne (t := 9) hY dX12_spansOfText_53 (by decide) rfl ?_ ?_
          · exact xv_mk (L' := [some (xr a0), some (xi (x2.1 + 1)), some (xi x8)]) [true, true, true] rfl (hf3 ((x2.1 + 1), x8, M10))
          · refine xv_bipush (by decide) hY dX12_spansOfText_56 rfl ?_
            exact xv_ireti hY hfl dX12_spansOfText_58 hret (Nat.le_of_ble_eq_true rfl) (Nat.le_of_ble_eq_true rfl)
      · refine xv_icmp_ge (t := 41) hY dX12_spansOfText_34 (by decide) rfl ?_ ?_
        · refine xv_iconst hY dX12_spansOfText_41 rfl ?_
          exact xv_mk (L' := [some (xr a0), some (xi (x2.1 + 1)), none]) [true, true, false] rfl (hj9 (0 : Int))
        · refine xv_iconst hY dX12_spansOfText_37 rfl ?_
          refine xv_goto (pc' := 42) hY dX12_spansOfText_38 (by decide) ?_
          exact xv_mk (L' := [some (xr a0), some (xi (x2.1 + 1)), none]) [true, true, false] rfl (hj9 (1 : Int))
    · refine xv_bipush (by decide) hY dX12_spansOfText_20 rfl ?_
      exact xv_ireti hY hfl dX12_spansOfText_22 hret (Nat.le_of_ble_eq_true rfl) (Nat.le_of_ble_eq_true rfl)
set_option maxHeartbeats 4000000 in
set_option maxRecDepth 100000 in
theorem S_X12_readSpans (l : Launch) (a0 : Nat) (M : xv_M) (q : Int × xv_M) (h : D_X12_readSpans a0 M = some q) : xv_Met l yX12_readSpans wsX12_readSpans rm_X12_readSpans 0 0 false [xr a0] M (xv_qI false q) := by
  refine xv_enter (cc := cX12_readSpans) (nL := 3) (ret := (some .int)) rfl (by decide +kernel) (Nat.le_of_ble_eq_true rfl) h ?_
  intro Y hY0 hl hR hnL hfl hret hnm0
  have hY : xv_ok Y cX12_readSpans wsX12_readSpans RX12 := hY0
  have hin12 : ∀ w ∈ u_ws RX12 TX12 18, w ∈ wsX12_readSpans := fun _ h => List.mem_cons_of_mem _ (List.mem_append_right _ h)
  unfold D_X12_readSpans
  refine xv_mk (L' := [some (xr a0), none, none]) [true, true, true] rfl ?_
  refine xv_aload_n rfl rfl hY dX12_readSpans_0 rfl ?_
  refine xv_callVI (ci := 12) (y := yX12_spansOfText) (ws := wsX12_spansOfText) (rm := rm_X12_spansOfText) (mc := 0) (ms := 0) (n := 0) (av := []) hY dX12_readSpans_1 rfl rfl rfl (by decide) (fun q hq => by rw [hfl]; exact S_X12_spansOfText Y.1.2.1 a0 M q hq) (cwV 0 hY.2.2.2.2.1 gX12_readSpans_X12_spansOfText rfl rfl rfl (by decide +kernel) ⟨(by rw [hR]; exact Nat.le_of_ble_eq_true rfl), (by rw [hR]; exact Nat.le_of_ble_eq_true rfl)⟩) rfl (Nat.le_of_ble_eq_true rfl) ⟨(by rw [hR]; exact Nat.le_of_ble_eq_true rfl), (by rw [hR]; exact Nat.le_of_ble_eq_true rfl)⟩ (fun z2 M1 => ?_)
  refine xv_istore_n (L' := [some (xr a0), some (xi z2), none]) hY dX12_readSpans_4 rfl rfl (by rw [hnL]; decide) rfl rfl ?_
  refine xv_iload_n rfl rfl hY dX12_readSpans_5 rfl ?_
  refine xv_bipush (by decide) hY dX12_readSpans_6 rfl ?_
  refine xv_icmp_ne (t := 19) hY dX12_readSpans_8 (by decide) rfl ?_ ?_
  · refine xv_aload_n rfl rfl hY dX12_readSpans_19 rfl ?_
    refine xv_iconst hY dX12_readSpans_20 rfl ?_
    refine xv_putI (ci := 12) (j := 7) hY dX12_readSpans_21 rfl rfl rfl (by decide) hin12 (by decide) rfl (List.mem_of_getElem? (i := 1) rfl) tyX12_ok nmX12 (Or.inl rfl) rfl (fun M3 => ?_)
    refine xv_iconst hY dX12_readSpans_24 rfl ?_
    refine xv_istore_n (L' := [some (xr a0), some (xi z2), some (xi (0 : Int))]) hY dX12_readSpans_25 rfl rfl (by rw [hnL]; decide) rfl rfl ?_
    refine xv_mk (L' := [some (xr a0), some (xi z2), some (xi (0 : Int))]) [true, true, true] rfl ?_
    refine xv_loop (σ := Int × xv_M) (fun x4 => [some (xr a0), some (xi z2), some (xi x4.1)]) (fun x4 => x4.2) (fun f5 hf5 x4 => ?_) xv_fuel ((0 : Int), M3)
    refine xv_iload_n rfl rfl hY dX12_readSpans_26 rfl ?_
    refine xv_iload_n rfl rfl hY dX12_readSpans_27 rfl ?_
    refine xv_icmp_ge (t := 97) hY dX12_readSpans_28 (by decide) rfl ?_ ?_
    · refine xv_aload_n rfl rfl hY dX12_readSpans_97 rfl ?_
      refine xv_getP (ci := 12) (j := 0) hY dX12_readSpans_98 rfl rfl rfl (by decide) hin12 (by decide) rfl (List.mem_of_getElem? (i := 6) rfl) (fun v6 => ?_)
      refine xv_iconst hY dX12_readSpans_101 rfl ?_
      refine xv_iald hY dX12_readSpans_102 rfl (fun v7 => ?_)
      refine xv_iload_n rfl rfl hY dX12_readSpans_103 rfl ?_
      refine xv_iadd hY dX12_readSpans_104 rfl ?_
      refine xv_bipush (by decide) hY dX12_readSpans_105 rfl ?_
      refine xv_icmp_le (t := 113) hY dX12_readSpans_107 (by decide) rfl ?_ ?_
      · refine xv_aload_n rfl rfl hY dX12_readSpans_113 rfl ?_
        refine xv_callVV (ci := 12) (y := yX12_record) (ws := wsX12_record) (rm := rm_X12_record) (mc := 0) (ms := 0) (n := 0) (av := []) hY dX12_readSpans_114 rfl rfl rfl (by decide) (fun q hq => by rw [hfl]; exact S_X12_record Y.1.2.1 a0 x4.2 q hq) (cwV 0 hY.2.2.2.2.1 gX12_readSpans_X12_record rfl rfl rfl (by decide +kernel) ⟨(by rw [hR]; exact Nat.le_of_ble_eq_true rfl), (by rw [hR]; exact Nat.le_of_ble_eq_true rfl)⟩) rfl (Nat.le_of_ble_eq_true rfl) ⟨(by rw [hR]; exact Nat.le_of_ble_eq_true rfl), (by rw [hR]; exact Nat.le_of_ble_eq_true rfl)⟩ (fun _ M8 => ?_)
        refine xv_aload_n rfl rfl hY dX12_readSpans_117 rfl ?_
        refine xv_iconst hY dX12_readSpans_118 rfl ?_
        refine xv_putI (ci := 12) (j := 7) hY dX12_readSpans_119 rfl rfl rfl (by decide) hin12 (by decide) rfl (List.mem_of_getElem? (i := 1) rfl) tyX12_ok nmX12 (Or.inl rfl) rfl (fun M9 => ?_)
        refine xv_iconst hY dX12_readSpans_122 rfl ?_
        refine xv_istore_n (L' := [some (xr a0), some (xi z2), some (xi (0 : Int))]) hY dX12_readSpans_123 rfl rfl (by rw [hnL]; decide) rfl rfl ?_
        refine xv_mk (L' := [some (xr a0), some (xi z2), some (xi (0 : Int))]) [true, true, true] rfl ?_
        refine xv_loop (σ := Int × xv_M) (fun x10 => [some (xr a0), some (xi z2), some (xi x10.1)]) (fun x10 => x10.2) (fun f11 hf11 x10 => ?_) xv_fuel ((0 : Int), M9)
        refine xv_iload_n rfl rfl hY dX12_readSpans_124 rfl ?_
        refine xv_iload_n rfl rfl hY dX12_readSpans_125 rfl ?_
        refine xv_icmp_ge (t := 171) hY dX12_readSpans_126 (by decide) rfl ?_ ?_
        · refine xv_iload_n rfl rfl hY dX12_readSpans_171 rfl ?_
          exact xv_ireti hY hfl dX12_readSpans_172 hret (Nat.le_of_ble_eq_true rfl) (Nat.le_of_ble_eq_true rfl)
        · refine xv_aload_n rfl rfl hY dX12_readSpans_129 rfl ?_
          refine xv_callVI (ci := 12) (y := yX12_takesSpan) (ws := wsX12_takesSpan) (rm := rm_X12_takesSpan) (mc := 0) (ms := 0) (n := 0) (av := []) hY dX12_readSpans_130 rfl rfl rfl (by decide) (fun q hq => by rw [hfl]; exact S_X12_takesSpan Y.1.2.1 a0 x10.2 q hq) (cwV 0 hY.2.2.2.2.1 gX12_readSpans_X12_takesSpan rfl rfl rfl (by decide +kernel) ⟨(by rw [hR]; exact Nat.le_of_ble_eq_true rfl), (by rw [hR]; exact Nat.le_of_ble_eq_true rfl)⟩) rfl (Nat.le_of_ble_eq_true rfl) ⟨(by rw [hR]; exact Nat.le_of_ble_eq_true rfl), (by rw [hR]; exact Nat.le_of_ble_eq_true rfl)⟩ (fun z13 M12 => ?_)
          refine xv_pop hY dX12_readSpans_133 rfl ?_
          refine xv_aload_n rfl rfl hY dX12_readSpans_134 rfl ?_
          refine xv_dupr hY dX12_readSpans_135 rfl ?_
          refine xv_getI (ci := 12) (j := 7) hY dX12_readSpans_136 rfl rfl rfl (by decide) hin12 (by decide) rfl (List.mem_of_getElem? (i := 1) rfl) (fun v14 => ?_)
          refine xv_iconst hY dX12_readSpans_139 rfl ?_
          refine xv_iadd hY dX12_readSpans_140 rfl ?_
          refine xv_putI (ci := 12) (j := 7) hY dX12_readSpans_141 rfl rfl rfl (by decide) hin12 (by decide) rfl (List.mem_of_getElem? (i := 1) rfl) tyX12_ok nmX12 (Or.inl rfl) rfl (fun M15 => ?_)
          refine xv_aload_n rfl rfl hY dX12_readSpans_144 rfl ?_
          refine xv_aload_n rfl rfl hY dX12_readSpans_145 rfl ?_
          refine xv_getI (ci := 12) (j := 9) hY dX12_readSpans_146 rfl rfl rfl (by decide) hin12 (by decide) rfl (List.mem_of_getElem? (i := 2) rfl) (fun v16 => ?_)
          refine xv_aload_n rfl rfl hY dX12_readSpans_149 rfl ?_
          refine xv_getI (ci := 12) (j := 10) hY dX12_readSpans_150 rfl rfl rfl (by decide) hin12 (by decide) rfl (List.mem_of_getElem? (i := 3) rfl) (fun v17 => ?_)
          refine xv_aload_n rfl rfl hY dX12_readSpans_153 rfl ?_
          refine xv_getI (ci := 12) (j := 11) hY dX12_readSpans_154 rfl rfl rfl (by decide) hin12 (by decide) rfl (List.mem_of_getElem? (i := 4) rfl) (fun v18 => ?_)
          refine xv_aload_n rfl rfl hY dX12_readSpans_157 rfl ?_
          refine xv_getI (ci := 12) (j := 12) hY dX12_readSpans_158 rfl rfl rfl (by decide) hin12 (by decide) rfl (List.mem_of_getElem? (i := 5) rfl) (fun v19 => ?_)
          refine xv_callVI (ci := 12) (y := yX12_adds) (ws := wsX12_adds) (rm := rm_X12_adds) (mc := 0) (ms := 0) (n := 4) (av := [xi v16, xi v17, xi v18, xi v19]) hY dX12_readSpans_161 rfl rfl rfl (by decide) (fun q hq => by rw [hfl]; exact S_X12_adds Y.1.2.1 a0 v16 v17 v18 v19 M15 q hq) (cwV 4 hY.2.2.2.2.1 gX12_readSpans_X12_adds rfl rfl rfl (by decide +kernel) ⟨(by rw [hR]; exact Nat.le_of_ble_eq_true rfl), (by rw [hR]; exact Nat.le_of_ble_eq_true rfl)⟩) rfl (Nat.le_of_ble_eq_true rfl) ⟨(by rw [hR]; exact Nat.le_of_ble_eq_true rfl), (by rw [hR]; exact Nat.le_of_ble_eq_true rfl)⟩ (fun z21 M20 => ?_)
          refine xv_pop hY dX12_readSpans_164 rfl ?_
          refine xv_iinc (L' := [some (xr a0), some (xi z2), some (xi (x10.1 + 1))]) hY dX12_readSpans_165 rfl (by rw [hnL]; decide) rfl rfl rfl ?_
          refine xv_goto (pc' := 124) hY dX12_readSpans_168 (by decide) ?_
          exact xv_mk (L' := [some (xr a0), some (xi z2), some (xi (x10.1 + 1))]) [true, true, true] rfl (hf11 ((x10.1 + 1), M20))
      · refine xv_bipush (by decide) hY dX12_readSpans_110 rfl ?_
        exact xv_ireti hY hfl dX12_readSpans_112 hret (Nat.le_of_ble_eq_true rfl) (Nat.le_of_ble_eq_true rfl)
    · refine xv_aload_n rfl rfl hY dX12_readSpans_31 rfl ?_
      refine xv_callVI (ci := 12) (y := yX12_takesSpan) (ws := wsX12_takesSpan) (rm := rm_X12_takesSpan) (mc := 0) (ms := 0) (n := 0) (av := []) hY dX12_readSpans_32 rfl rfl rfl (by decide) (fun q hq => by rw [hfl]; exact S_X12_takesSpan Y.1.2.1 a0 x4.2 q hq) (cwV 0 hY.2.2.2.2.1 gX12_readSpans_X12_takesSpan rfl rfl rfl (by decide +kernel) ⟨(by rw [hR]; exact Nat.le_of_ble_eq_true rfl), (by rw [hR]; exact Nat.le_of_ble_eq_true rfl)⟩) rfl (Nat.le_of_ble_eq_true rfl) ⟨(by rw [hR]; exact Nat.le_of_ble_eq_true rfl), (by rw [hR]; exact Nat.le_of_ble_eq_true rfl)⟩ (fun z23 M22 => ?_)
      refine xv_pop hY dX12_readSpans_35 rfl ?_
      refine xv_aload_n rfl rfl hY dX12_readSpans_36 rfl ?_
      refine xv_dupr hY dX12_readSpans_37 rfl ?_
      refine xv_getI (ci := 12) (j := 7) hY dX12_readSpans_38 rfl rfl rfl (by decide) hin12 (by decide) rfl (List.mem_of_getElem? (i := 1) rfl) (fun v24 => ?_)
      refine xv_iconst hY dX12_readSpans_41 rfl ?_
      refine xv_iadd hY dX12_readSpans_42 rfl ?_
      refine xv_putI (ci := 12) (j := 7) hY dX12_readSpans_43 rfl rfl rfl (by decide) hin12 (by decide) rfl (List.mem_of_getElem? (i := 1) rfl) tyX12_ok nmX12 (Or.inl rfl) rfl (fun M25 => ?_)
      refine xv_aload_n rfl rfl hY dX12_readSpans_46 rfl ?_
      refine xv_getI (ci := 12) (j := 9) hY dX12_readSpans_47 rfl rfl rfl (by decide) hin12 (by decide) rfl (List.mem_of_getElem? (i := 2) rfl) (fun v26 => ?_)
      refine xv_sipush (by decide) hY dX12_readSpans_50 rfl ?_
      refine xv_icmp_gt (t := 88) hY dX12_readSpans_53 (by decide) rfl ?_ ?_
      · refine xv_bipush (by decide) hY dX12_readSpans_88 rfl ?_
        exact xv_ireti hY hfl dX12_readSpans_90 hret (Nat.le_of_ble_eq_true rfl) (Nat.le_of_ble_eq_true rfl)
      · refine xv_aload_n rfl rfl hY dX12_readSpans_56 rfl ?_
        refine xv_getI (ci := 12) (j := 10) hY dX12_readSpans_57 rfl rfl rfl (by decide) hin12 (by decide) rfl (List.mem_of_getElem? (i := 3) rfl) (fun v27 => ?_)
        refine xv_sipush (by decide) hY dX12_readSpans_60 rfl ?_
        refine xv_icmp_gt (t := 88) hY dX12_readSpans_63 (by decide) rfl ?_ ?_
        · refine xv_bipush (by decide) hY dX12_readSpans_88 rfl ?_
          exact xv_ireti hY hfl dX12_readSpans_90 hret (Nat.le_of_ble_eq_true rfl) (Nat.le_of_ble_eq_true rfl)
        · refine xv_aload_n rfl rfl hY dX12_readSpans_66 rfl ?_
          refine xv_getI (ci := 12) (j := 10) hY dX12_readSpans_67 rfl rfl rfl (by decide) hin12 (by decide) rfl (List.mem_of_getElem? (i := 3) rfl) (fun v28 => ?_)
          refine xv_aload_n rfl rfl hY dX12_readSpans_70 rfl ?_
          refine xv_getI (ci := 12) (j := 9) hY dX12_readSpans_71 rfl rfl rfl (by decide) hin12 (by decide) rfl (List.mem_of_getElem? (i := 2) rfl) (fun v29 => ?_)
          refine xv_icmp_lt (t := 88) hY dX12_readSpans_74 (by decide) rfl ?_ ?_
          · refine xv_bipush (by decide) hY dX12_readSpans_88 rfl ?_
            exact xv_ireti hY hfl dX12_readSpans_90 hret (Nat.le_of_ble_eq_true rfl) (Nat.le_of_ble_eq_true rfl)
          · refine xv_aload_n rfl rfl hY dX12_readSpans_77 rfl ?_
            refine xv_getI (ci := 12) (j := 11) hY dX12_readSpans_78 rfl rfl rfl (by decide) hin12 (by decide) rfl (List.mem_of_getElem? (i := 4) rfl) (fun v30 => ?_)
            refine xv_aload_n rfl rfl hY dX12_readSpans_81 rfl ?_
            refine xv_getI (ci := 12) (j := 12) hY dX12_readSpans_82 rfl rfl rfl (by decide) hin12 (by decide) rfl (List.mem_of_getElem? (i := 5) rfl) (fun v31 => ?_)
            refine xv_icmp_le (t := 91) hY dX12_readSpans_85 (by decide) rfl ?_ ?_
            · refine xv_iinc (L' := [some (xr a0), some (xi z2), some (xi (x4.1 + 1))]) hY dX12_readSpans_91 rfl (by rw [hnL]; decide) rfl rfl rfl ?_
              refine xv_goto (pc' := 26) hY dX12_readSpans_94 (by decide) ?_
              exact xv_mk (L' := [some (xr a0), some (xi z2), some (xi (x4.1 + 1))]) [true, true, true] rfl (hf5 ((x4.1 + 1), M25))
            · refine xv_bipush (by decide) hY dX12_readSpans_88 rfl ?_
              exact xv_ireti hY hfl dX12_readSpans_90 hret (Nat.le_of_ble_eq_true rfl) (Nat.le_of_ble_eq_true rfl)
  · refine xv_bipush (by decide) hY dX12_readSpans_11 rfl ?_
    refine xv_aload_n rfl rfl hY dX12_readSpans_13 rfl ?_
    refine xv_getI (ci := 12) (j := 7) hY dX12_readSpans_14 rfl rfl rfl (by decide) hin12 (by decide) rfl (List.mem_of_getElem? (i := 1) rfl) (fun v32 => ?_)
    refine xv_isub hY dX12_readSpans_17 rfl ?_
    exact xv_ireti hY hfl dX12_readSpans_18 hret (Nat.le_of_ble_eq_true rfl) (Nat.le_of_ble_eq_true rfl)
set_option maxHeartbeats 4000000 in
set_option maxRecDepth 100000 in
theorem S_X12_there (l : Launch) (a0 : Nat) (M : xv_M) (q : Int × xv_M) (h : D_X12_there a0 M = some q) : xv_Met l yX12_there wsX12_there rm_X12_there 0 0 false [xr a0] M (xv_qI false q) := by
  refine xv_enter (cc := cX12_there) (nL := 3) (ret := (some .int)) rfl (by decide +kernel) (Nat.le_of_ble_eq_true rfl) h ?_
  intro Y hY0 hl hR hnL hfl hret hnm0
  have hY : xv_ok Y cX12_there wsX12_there RX12 := hY0
  have hin12 : ∀ w ∈ u_ws RX12 TX12 18, w ∈ wsX12_there := fun _ h => List.mem_cons_of_mem _ (List.mem_append_right _ h)
  unfold D_X12_there
  refine xv_mk (L' := [some (xr a0), none, none]) [true, true, true] rfl ?_
  refine xv_iconst hY dX12_there_0 rfl ?_
  refine xv_istore_n (L' := [some (xr a0), some (xi (0 : Int)), none]) hY dX12_there_1 rfl rfl (by rw [hnL]; decide) rfl rfl ?_
  refine xv_iconst hY dX12_there_2 rfl ?_
  refine xv_istore_n (L' := [some (xr a0), some (xi (0 : Int)), some (xi (0 : Int))]) hY dX12_there_3 rfl rfl (by rw [hnL]; decide) rfl rfl ?_
  refine xv_mk (L' := [some (xr a0), some (xi (0 : Int)), some (xi (0 : Int))]) [true, true, true] rfl ?_
  refine xv_loop (σ := Int × Int × xv_M) (fun x1 => [some (xr a0), some (xi x1.1), some (xi x1.2.1)]) (fun x1 => x1.2.2) (fun f2 hf2 x1 => ?_) xv_fuel ((0 : Int), (0 : Int), M)
  refine xv_iload_n rfl rfl hY dX12_there_4 rfl ?_
  refine xv_aload_n rfl rfl hY dX12_there_5 rfl ?_
  refine xv_getP (ci := 12) (j := 0) hY dX12_there_6 rfl rfl rfl (by decide) hin12 (by decide) rfl (List.mem_of_getElem? (i := 1) rfl) (fun v3 => ?_)
  refine xv_iconst hY dX12_there_9 rfl ?_
  refine xv_iald hY dX12_there_10 rfl (fun v4 => ?_)
  refine xv_icmp_ge (t := 29) hY dX12_there_11 (by decide) rfl ?_ ?_
  · refine xv_iload_n rfl rfl hY dX12_there_29 rfl ?_
    exact xv_ireti hY hfl dX12_there_30 hret (Nat.le_of_ble_eq_true rfl) (Nat.le_of_ble_eq_true rfl)
  · refine xv_iload_n rfl rfl hY dX12_there_14 rfl ?_
    refine xv_aload_n rfl rfl hY dX12_there_15 rfl ?_
    refine xv_iload_n rfl rfl hY dX12_there_16 rfl ?_
    refine xv_iconst hY dX12_there_17 rfl ?_
    refine xv_callVI (ci := 12) (y := yX12_of) (ws := wsX12_of) (rm := rm_X12_of) (mc := 0) (ms := 0) (n := 2) (av := [xi x1.2.1, xi (4 : Int)]) hY dX12_there_18 rfl rfl rfl (by decide) (fun q hq => by rw [hfl]; exact S_X12_of Y.1.2.1 a0 x1.2.1 (4 : Int) x1.2.2 q hq) (cwV 2 hY.2.2.2.2.1 gX12_there_X12_of rfl rfl rfl (by decide +kernel) ⟨(by rw [hR]; exact Nat.le_of_ble_eq_true rfl), (by rw [hR]; exact Nat.le_of_ble_eq_true rfl)⟩) rfl (Nat.le_of_ble_eq_true rfl) ⟨(by rw [hR]; exact Nat.le_of_ble_eq_true rfl), (by rw [hR]; exact Nat.le_of_ble_eq_true rfl)⟩ (fun z6 M5 => ?_)
    refine xv_iadd hY dX12_there_21 rfl ?_
    refine xv_istore_n (L' := [some (xr a0), some (xi (x1.1 + z6)), some (xi x1.2.1)]) hY dX12_there_22 rfl rfl (by rw [hnL]; decide) rfl rfl ?_
    refine xv_iinc (L' := [some (xr a0), some (xi (x1.1 + z6)), some (xi (x1.2.1 + 1))]) hY dX12_there_23 rfl (by rw [hnL]; decide) rfl rfl rfl ?_
    refine xv_goto (pc' := 4) hY dX12_there_26 (by decide) ?_
    exact xv_mk (L' := [some (xr a0), some (xi (x1.1 + z6)), some (xi (x1.2.1 + 1))]) [true, true, true] rfl (hf2 ((x1.1 + z6), (x1.2.1 + 1), M5))
set_option maxHeartbeats 4000000 in
set_option maxRecDepth 100000 in
theorem S_X12_undo (l : Launch) (a0 : Nat) (M : xv_M) (q : Int × xv_M) (h : D_X12_undo a0 M = some q) : xv_Met l yX12_undo wsX12_undo rm_X12_undo 0 0 false [xr a0] M (xv_qI false q) := by
  refine xv_enter (cc := cX12_undo) (nL := 2) (ret := (some .int)) rfl (by decide +kernel) (Nat.le_of_ble_eq_true rfl) h ?_
  intro Y hY0 hl hR hnL hfl hret hnm0
  have hY : xv_ok Y cX12_undo wsX12_undo RX12 := hY0
  have hin12 : ∀ w ∈ u_ws RX12 TX12 18, w ∈ wsX12_undo := fun _ h => List.mem_cons_of_mem _ (List.mem_append_right _ h)
  unfold D_X12_undo
  refine xv_mk (L' := [some (xr a0), none]) [true, true] rfl ?_
  refine xv_aload_n rfl rfl hY dX12_undo_0 rfl ?_
  refine xv_getI (ci := 12) (j := 2) hY dX12_undo_1 rfl rfl rfl (by decide) hin12 (by decide) rfl (List.mem_of_getElem? (i := 1) rfl) (fun v1 => ?_)
  refine xv_if_ne (t := 10) hY dX12_undo_4 (by decide) rfl ?_ ?_
  · refine xv_aload_n rfl rfl hY dX12_undo_10 rfl ?_
    refine xv_dupr hY dX12_undo_11 rfl ?_
    refine xv_getI (ci := 12) (j := 2) hY dX12_undo_12 rfl rfl rfl (by decide) hin12 (by decide) rfl (List.mem_of_getElem? (i := 1) rfl) (fun v2 => ?_)
    refine xv_iconst hY dX12_undo_15 rfl ?_
    refine xv_isub hY dX12_undo_16 rfl ?_
    refine xv_putI (ci := 12) (j := 2) hY dX12_undo_17 rfl rfl rfl (by decide) hin12 (by decide) rfl (List.mem_of_getElem? (i := 1) rfl) tyX12_ok nmX12 (Or.inl rfl) rfl (fun M3 => ?_)
    refine xv_iconst hY dX12_undo_20 rfl ?_
    refine xv_istore_n (L' := [some (xr a0), some (xi (0 : Int))]) hY dX12_undo_21 rfl rfl (by rw [hnL]; decide) rfl rfl ?_
    refine xv_mk (L' := [some (xr a0), some (xi (0 : Int))]) [true, true] rfl ?_
    refine xv_loop (σ := Int × xv_M) (fun x4 => [some (xr a0), some (xi x4.1)]) (fun x4 => x4.2) (fun f5 hf5 x4 => ?_) xv_fuel ((0 : Int), M3)
    refine xv_iload_n rfl rfl hY dX12_undo_22 rfl ?_
    refine xv_sipush (by decide) hY dX12_undo_23 rfl ?_
    refine xv_icmp_ge (t := 56) hY dX12_undo_26 (by decide) rfl ?_ ?_
    · refine xv_aload_n rfl rfl hY dX12_undo_56 rfl ?_
      refine xv_getI (ci := 12) (j := 2) hY dX12_undo_57 rfl rfl rfl (by decide) hin12 (by decide) rfl (List.mem_of_getElem? (i := 1) rfl) (fun v6 => ?_)
      exact xv_ireti hY hfl dX12_undo_60 hret (Nat.le_of_ble_eq_true rfl) (Nat.le_of_ble_eq_true rfl)
    · refine xv_aload_n rfl rfl hY dX12_undo_29 rfl ?_
      refine xv_getP (ci := 12) (j := 0) hY dX12_undo_30 rfl rfl rfl (by decide) hin12 (by decide) rfl (List.mem_of_getElem? (i := 2) rfl) (fun v7 => ?_)
      refine xv_iload_n rfl rfl hY dX12_undo_33 rfl ?_
      refine xv_aload_n rfl rfl hY dX12_undo_34 rfl ?_
      refine xv_getP (ci := 12) (j := 1) hY dX12_undo_35 rfl rfl rfl (by decide) hin12 (by decide) rfl (List.mem_of_getElem? (i := 3) rfl) (fun v8 => ?_)
      refine xv_sipush (by decide) hY dX12_undo_38 rfl ?_
      refine xv_aload_n rfl rfl hY dX12_undo_41 rfl ?_
      refine xv_getI (ci := 12) (j := 2) hY dX12_undo_42 rfl rfl rfl (by decide) hin12 (by decide) rfl (List.mem_of_getElem? (i := 1) rfl) (fun v9 => ?_)
      refine xv_imul hY dX12_undo_45 rfl ?_
      refine xv_iload_n rfl rfl hY dX12_undo_46 rfl ?_
      refine xv_iadd hY dX12_undo_47 rfl ?_
      refine xv_iald hY dX12_undo_48 rfl (fun v10 => ?_)
      refine xv_iast hY hfl dX12_undo_49 rfl (fun M11 => ?_)
      refine xv_iinc (L' := [some (xr a0), some (xi (x4.1 + 1))]) hY dX12_undo_50 rfl (by rw [hnL]; decide) rfl rfl rfl ?_
      refine xv_goto (pc' := 22) hY dX12_undo_53 (by decide) ?_
      exact xv_mk (L' := [some (xr a0), some (xi (x4.1 + 1))]) [true, true] rfl (hf5 ((x4.1 + 1), M11))
  · refine xv_bipush (by decide) hY dX12_undo_7 rfl ?_
    exact xv_ireti hY hfl dX12_undo_9 hret (Nat.le_of_ble_eq_true rfl) (Nat.le_of_ble_eq_true rfl)
set_option maxHeartbeats 4000000 in
set_option maxRecDepth 100000 in
theorem S_X12_keep (l : Launch) (a0 : Nat) (M : xv_M) (q : Int × xv_M) (h : D_X12_keep a0 M = some q) : xv_Met l yX12_keep wsX12_keep rm_X12_keep 0 0 false [xr a0] M (xv_qI false q) := by
  refine xv_enter (cc := cX12_keep) (nL := 2) (ret := (some .int)) rfl (by decide +kernel) (Nat.le_of_ble_eq_true rfl) h ?_
  intro Y hY0 hl hR hnL hfl hret hnm0
  have hY : xv_ok Y cX12_keep wsX12_keep RX12 := hY0
  have hin12 : ∀ w ∈ u_ws RX12 TX12 18, w ∈ wsX12_keep := fun _ h => List.mem_cons_of_mem _ (List.mem_append_right _ h)
  unfold D_X12_keep
  refine xv_mk (L' := [some (xr a0), none]) [true, true] rfl ?_
  refine xv_iconst hY dX12_keep_0 rfl ?_
  refine xv_istore_n (L' := [some (xr a0), some (xi (0 : Int))]) hY dX12_keep_1 rfl rfl (by rw [hnL]; decide) rfl rfl ?_
  refine xv_mk (L' := [some (xr a0), some (xi (0 : Int))]) [true, true] rfl ?_
  refine xv_loop (σ := Int × xv_M) (fun x1 => [some (xr a0), some (xi x1.1)]) (fun x1 => x1.2) (fun f2 hf2 x1 => ?_) xv_fuel ((0 : Int), M)
  refine xv_iload_n rfl rfl hY dX12_keep_2 rfl ?_
  refine xv_sipush (by decide) hY dX12_keep_3 rfl ?_
  refine xv_icmp_ge (t := 27) hY dX12_keep_6 (by decide) rfl ?_ ?_
  · refine xv_aload_n rfl rfl hY dX12_keep_27 rfl ?_
    refine xv_iconst hY dX12_keep_28 rfl ?_
    refine xv_putZ (ci := 12) (j := 4) hY dX12_keep_29 rfl rfl rfl (by decide) hin12 (by decide) rfl (List.mem_of_getElem? (i := 3) rfl) tyX12_ok nmX12 (Or.inl rfl) rfl (fun M3 => ?_)
    refine xv_aload_n rfl rfl hY dX12_keep_32 rfl ?_
    refine xv_callVI (ci := 12) (y := yX12_there) (ws := wsX12_there) (rm := rm_X12_there) (mc := 0) (ms := 0) (n := 0) (av := []) hY dX12_keep_33 rfl rfl rfl (by decide) (fun q hq => by rw [hfl]; exact S_X12_there Y.1.2.1 a0 M3 q hq) (cwV 0 hY.2.2.2.2.1 gX12_keep_X12_there rfl rfl rfl (by decide +kernel) ⟨(by rw [hR]; exact Nat.le_of_ble_eq_true rfl), (by rw [hR]; exact Nat.le_of_ble_eq_true rfl)⟩) rfl (Nat.le_of_ble_eq_true rfl) ⟨(by rw [hR]; exact Nat.le_of_ble_eq_true rfl), (by rw [hR]; exact Nat.le_of_ble_eq_true rfl)⟩ (fun z5 M4 => ?_)
    exact xv_ireti hY hfl dX12_keep_36 hret (Nat.le_of_ble_eq_true rfl) (Nat.le_of_ble_eq_true rfl)
  · refine xv_aload_n rfl rfl hY dX12_keep_9 rfl ?_
    refine xv_getP (ci := 12) (j := 3) hY dX12_keep_10 rfl rfl rfl (by decide) hin12 (by decide) rfl (List.mem_of_getElem? (i := 1) rfl) (fun v6 => ?_)
    refine xv_iload_n rfl rfl hY dX12_keep_13 rfl ?_
    refine xv_aload_n rfl rfl hY dX12_keep_14 rfl ?_
    refine xv_getP (ci := 12) (j := 0) hY dX12_keep_15 rfl rfl rfl (by decide) hin12 (by decide) rfl (List.mem_of_getElem? (i := 2) rfl) (fun v7 => ?_)
    refine xv_iload_n rfl rfl hY dX12_keep_18 rfl ?_
    refine xv_iald hY dX12_keep_19 rfl (fun v8 => ?_)
    refine xv_iast hY hfl dX12_keep_20 rfl (fun M9 => ?_)
    refine xv_iinc (L' := [some (xr a0), some (xi (x1.1 + 1))]) hY dX12_keep_21 rfl (by rw [hnL]; decide) rfl rfl rfl ?_
    refine xv_goto (pc' := 2) hY dX12_keep_24 (by decide) ?_
    exact xv_mk (L' := [some (xr a0), some (xi (x1.1 + 1))]) [true, true] rfl (hf2 ((x1.1 + 1), M9))
set_option maxHeartbeats 4000000 in
set_option maxRecDepth 100000 in
theorem S_X12_restore (l : Launch) (a0 : Nat) (M : xv_M) (q : Int × xv_M) (h : D_X12_restore a0 M = some q) : xv_Met l yX12_restore wsX12_restore rm_X12_restore 0 0 false [xr a0] M (xv_qI false q) := by
  refine xv_enter (cc := cX12_restore) (nL := 2) (ret := (some .int)) rfl (by decide +kernel) (Nat.le_of_ble_eq_true rfl) h ?_
  intro Y hY0 hl hR hnL hfl hret hnm0
  have hY : xv_ok Y cX12_restore wsX12_restore RX12 := hY0
  have hin12 : ∀ w ∈ u_ws RX12 TX12 18, w ∈ wsX12_restore := fun _ h => List.mem_cons_of_mem _ (List.mem_append_right _ h)
  unfold D_X12_restore
  refine xv_mk (L' := [some (xr a0), none]) [true, true] rfl ?_
  refine xv_aload_n rfl rfl hY dX12_restore_0 rfl ?_
  refine xv_getI (ci := 12) (j := 4) hY dX12_restore_1 rfl rfl rfl (by decide) hin12 (by decide) rfl (List.mem_of_getElem? (i := 1) rfl) (fun v1 => ?_)
  refine xv_if_ne (t := 10) hY dX12_restore_4 (by decide) rfl ?_ ?_
  · refine xv_aload_n rfl rfl hY dX12_restore_10 rfl ?_
    refine xv_callVV (ci := 12) (y := yX12_record) (ws := wsX12_record) (rm := rm_X12_record) (mc := 0) (ms := 0) (n := 0) (av := []) hY dX12_restore_11 rfl rfl rfl (by decide) (fun q hq => by rw [hfl]; exact S_X12_record Y.1.2.1 a0 M q hq) (cwV 0 hY.2.2.2.2.1 gX12_restore_X12_record rfl rfl rfl (by decide +kernel) ⟨(by rw [hR]; exact Nat.le_of_ble_eq_true rfl), (by rw [hR]; exact Nat.le_of_ble_eq_true rfl)⟩) rfl (Nat.le_of_ble_eq_true rfl) ⟨(by rw [hR]; exact Nat.le_of_ble_eq_true rfl), (by rw [hR]; exact Nat.le_of_ble_eq_true rfl)⟩ (fun _ M2 => ?_)
    refine xv_iconst hY dX12_restore_14 rfl ?_
    refine xv_istore_n (L' := [some (xr a0), some (xi (0 : Int))]) hY dX12_restore_15 rfl rfl (by rw [hnL]; decide) rfl rfl ?_
    refine xv_mk (L' := [some (xr a0), some (xi (0 : Int))]) [true, true] rfl ?_
    refine xv_loop (σ := Int × xv_M) (fun x3 => [some (xr a0), some (xi x3.1)]) (fun x3 => x3.2) (fun f4 hf4 x3 => ?_) xv_fuel ((0 : Int), M2)
    refine xv_iload_n rfl rfl hY dX12_restore_16 rfl ?_
    refine xv_sipush (by decide) hY dX12_restore_17 rfl ?_
    refine xv_icmp_ge (t := 41) hY dX12_restore_20 (by decide) rfl ?_ ?_
    · refine xv_aload_n rfl rfl hY dX12_restore_41 rfl ?_
      refine xv_callVI (ci := 12) (y := yX12_there) (ws := wsX12_there) (rm := rm_X12_there) (mc := 0) (ms := 0) (n := 0) (av := []) hY dX12_restore_42 rfl rfl rfl (by decide) (fun q hq => by rw [hfl]; exact S_X12_there Y.1.2.1 a0 x3.2 q hq) (cwV 0 hY.2.2.2.2.1 gX12_restore_X12_there rfl rfl rfl (by decide +kernel) ⟨(by rw [hR]; exact Nat.le_of_ble_eq_true rfl), (by rw [hR]; exact Nat.le_of_ble_eq_true rfl)⟩) rfl (Nat.le_of_ble_eq_true rfl) ⟨(by rw [hR]; exact Nat.le_of_ble_eq_true rfl), (by rw [hR]; exact Nat.le_of_ble_eq_true rfl)⟩ (fun z6 M5 => ?_)
      exact xv_ireti hY hfl dX12_restore_45 hret (Nat.le_of_ble_eq_true rfl) (Nat.le_of_ble_eq_true rfl)
    · refine xv_aload_n rfl rfl hY dX12_restore_23 rfl ?_
      refine xv_getP (ci := 12) (j := 0) hY dX12_restore_24 rfl rfl rfl (by decide) hin12 (by decide) rfl (List.mem_of_getElem? (i := 2) rfl) (fun v7 => ?_)
      refine xv_iload_n rfl rfl hY dX12_restore_27 rfl ?_
      refine xv_aload_n rfl rfl hY dX12_restore_28 rfl ?_
      refine xv_getP (ci := 12) (j := 3) hY dX12_restore_29 rfl rfl rfl (by decide) hin12 (by decide) rfl (List.mem_of_getElem? (i := 3) rfl) (fun v8 => ?_)
      refine xv_iload_n rfl rfl hY dX12_restore_32 rfl ?_
      refine xv_iald hY dX12_restore_33 rfl (fun v9 => ?_)
      refine xv_iast hY hfl dX12_restore_34 rfl (fun M10 => ?_)
      refine xv_iinc (L' := [some (xr a0), some (xi (x3.1 + 1))]) hY dX12_restore_35 rfl (by rw [hnL]; decide) rfl rfl rfl ?_
      refine xv_goto (pc' := 16) hY dX12_restore_38 (by decide) ?_
      exact xv_mk (L' := [some (xr a0), some (xi (x3.1 + 1))]) [true, true] rfl (hf4 ((x3.1 + 1), M10))
  · refine xv_bipush (by decide) hY dX12_restore_7 rfl ?_
    exact xv_ireti hY hfl dX12_restore_9 hret (Nat.le_of_ble_eq_true rfl) (Nat.le_of_ble_eq_true rfl)
set_option maxHeartbeats 4000000 in
set_option maxRecDepth 100000 in
theorem S_X12_finds (l : Launch) (a0 : Nat) (a1 : Int) (a2 : Int) (M : xv_M) (q : Unit × xv_M) (h : D_X12_finds a0 a1 a2 M = some q) : xv_Met l yX12_finds wsX12_finds rm_X12_finds 0 0 false [xr a0, xi a1, xi a2] M (xv_qV false q) := by
  refine xv_enter (cc := cX12_finds) (nL := 5) (ret := none) rfl (by decide +kernel) (Nat.le_of_ble_eq_true rfl) h ?_
  intro Y hY0 hl hR hnL hfl hret hnm0
  have hY : xv_ok Y cX12_finds wsX12_finds RX12 := hY0
  have hin12 : ∀ w ∈ u_ws RX12 TX12 18, w ∈ wsX12_finds := fun _ h => List.mem_cons_of_mem _ (List.mem_append_right _ h)
  unfold D_X12_finds
  refine xv_mk (L' := [some (xr a0), some (xi a1), some (xi a2), none, none]) [true, true, true, true, true] rfl ?_
  refine xv_iconst hY dX12_finds_0 rfl ?_
  refine xv_istore_n (L' := [some (xr a0), some (xi a1), some (xi a2), some (xi (0 : Int)), none]) hY dX12_finds_1 rfl rfl (by rw [hnL]; decide) rfl rfl ?_
  refine xv_sipush (by decide) hY dX12_finds_2 rfl ?_
  refine xv_istore (L' := [some (xr a0), some (xi a1), some (xi a2), some (xi (0 : Int)), some (xi (1000 : Int))]) hY dX12_finds_5 rfl (by rw [hnL]; decide) rfl rfl ?_
  refine xv_aload_n rfl rfl hY dX12_finds_7 rfl ?_
  refine xv_iconst hY dX12_finds_8 rfl ?_
  refine xv_putI (ci := 12) (j := 14) hY dX12_finds_9 rfl rfl rfl (by decide) hin12 (by decide) rfl (List.mem_of_getElem? (i := 1) rfl) tyX12_ok nmX12 (Or.inl rfl) rfl (fun M1 => ?_)
  refine xv_aload_n rfl rfl hY dX12_finds_12 rfl ?_
  refine xv_iload_n rfl rfl hY dX12_finds_13 rfl ?_
  refine xv_iload rfl hY dX12_finds_14 rfl ?_
  refine xv_iadd hY dX12_finds_16 rfl ?_
  refine xv_iconst hY dX12_finds_17 rfl ?_
  refine xv_idiv hY dX12_finds_18 rfl ?_
  refine xv_putI (ci := 12) (j := 13) hY dX12_finds_19 rfl rfl rfl (by decide) hin12 (by decide) rfl (List.mem_of_getElem? (i := 2) rfl) tyX12_ok nmX12 (Or.inl rfl) rfl (fun M2 => ?_)
  refine xv_mk (L' := [some (xr a0), some (xi a1), some (xi a2), some (xi (0 : Int)), some (xi (1000 : Int))]) [true, true, true, true, true] rfl ?_
  refine xv_loop (σ := Int × Int × xv_M) (fun x3 => [some (xr a0), some (xi a1), some (xi a2), some (xi x3.1), some (xi x3.2.1)]) (fun x3 => x3.2.2) (fun f4 hf4 x3 => ?_) xv_fuel ((0 : Int), (1000 : Int), M2)
  refine xv_aload_n rfl rfl hY dX12_finds_22 rfl ?_
  refine xv_getI (ci := 12) (j := 13) hY dX12_finds_23 rfl rfl rfl (by decide) hin12 (by decide) rfl (List.mem_of_getElem? (i := 2) rfl) (fun v5 => ?_)
  refine xv_aload_n rfl rfl hY dX12_finds_26 rfl ?_
  refine xv_iload_n rfl rfl hY dX12_finds_27 rfl ?_
  refine xv_iconst hY dX12_finds_28 rfl ?_
  refine xv_callVI (ci := 12) (y := yX12_of) (ws := wsX12_of) (rm := rm_X12_of) (mc := 0) (ms := 0) (n := 2) (av := [xi a1, xi (2 : Int)]) hY dX12_finds_29 rfl rfl rfl (by decide) (fun q hq => by rw [hfl]; exact S_X12_of Y.1.2.1 a0 a1 (2 : Int) x3.2.2 q hq) (cwV 2 hY.2.2.2.2.1 gX12_finds_X12_of rfl rfl rfl (by decide +kernel) ⟨(by rw [hR]; exact Nat.le_of_ble_eq_true rfl), (by rw [hR]; exact Nat.le_of_ble_eq_true rfl)⟩) rfl (Nat.le_of_ble_eq_true rfl) ⟨(by rw [hR]; exact Nat.le_of_ble_eq_true rfl), (by rw [hR]; exact Nat.le_of_ble_eq_true rfl)⟩ (fun z7 M6 => ?_)
  refine xv_aload_n rfl rfl hY dX12_finds_32 rfl ?_
  refine xv_iload_n rfl rfl hY dX12_finds_33 rfl ?_
  refine xv_iconst hY dX12_finds_34 rfl ?_
  refine xv_callVI (ci := 12) (y := yX12_of) (ws := wsX12_of) (rm := rm_X12_of) (mc := 0) (ms := 0) (n := 2) (av := [xi a1, xi (3 : Int)]) hY dX12_finds_35 rfl rfl rfl (by decide) (fun q hq => by rw [hfl]; exact S_X12_of Y.1.2.1 a0 a1 (3 : Int) M6 q hq) (cwV 2 hY.2.2.2.2.1 gX12_finds_X12_of rfl rfl rfl (by decide +kernel) ⟨(by rw [hR]; exact Nat.le_of_ble_eq_true rfl), (by rw [hR]; exact Nat.le_of_ble_eq_true rfl)⟩) rfl (Nat.le_of_ble_eq_true rfl) ⟨(by rw [hR]; exact Nat.le_of_ble_eq_true rfl), (by rw [hR]; exact Nat.le_of_ble_eq_true rfl)⟩ (fun z9 M8 => ?_)
  refine xv_callSI (y := yX12_in) (ws := wsX12_in) (rm := rm_X12_in) (mc := 0) (ms := 0) (n := 3) (av := [xi v5, xi z7, xi z9]) hY dX12_finds_38 rfl rfl (fun q hq => by rw [hfl]; exact S_X12_in Y.1.2.1 v5 z7 z9 M8 q hq) (va_cwS 3 hY.2.2.2.2.1 gX12_finds_X12_in rfl rfl rfl (by decide +kernel) ⟨(by rw [hR]; exact Nat.le_of_ble_eq_true rfl), (by rw [hR]; exact Nat.le_of_ble_eq_true rfl)⟩) rfl (Nat.le_of_ble_eq_true rfl) ⟨(by rw [hR]; exact Nat.le_of_ble_eq_true rfl), (by rw [hR]; exact Nat.le_of_ble_eq_true rfl)⟩ (fun z11 M10 => ?_)
  refine xv_if_ne (t := 112) hY dX12_finds_41 (by decide) rfl ?_ ?_
  · refine xv_iload_n rfl rfl hY dX12_finds_112 rfl ?_
    refine xv_if_eq (t := 139) hY dX12_finds_113 (by decide) rfl ?_ ?_
    · exact xv_vretu hY hfl dX12_finds_139 hret (Nat.le_of_ble_eq_true rfl) (Nat.le_of_ble_eq_true rfl)
    · refine xv_aload_n rfl rfl hY dX12_finds_116 rfl ?_
      refine xv_getP (ci := 12) (j := 15) hY dX12_finds_117 rfl rfl rfl (by decide) hin12 (by decide) rfl (List.mem_of_getElem? (i := 3) rfl) (fun v12 => ?_)
      refine xv_aload_n rfl rfl hY dX12_finds_120 rfl ?_
      refine xv_getI (ci := 12) (j := 13) hY dX12_finds_121 rfl rfl rfl (by decide) hin12 (by decide) rfl (List.mem_of_getElem? (i := 2) rfl) (fun v13 => ?_)
      refine xv_iconst hY dX12_finds_124 rfl ?_
      refine xv_zast hY hfl dX12_finds_125 rfl (fun M14 => ?_)
      refine xv_aload_n rfl rfl hY dX12_finds_126 rfl ?_
      refine xv_getP (ci := 12) (j := 16) hY dX12_finds_127 rfl rfl rfl (by decide) hin12 (by decide) rfl (List.mem_of_getElem? (i := 4) rfl) (fun v15 => ?_)
      refine xv_aload_n rfl rfl hY dX12_finds_130 rfl ?_
      refine xv_getI (ci := 12) (j := 13) hY dX12_finds_131 rfl rfl rfl (by decide) hin12 (by decide) rfl (List.mem_of_getElem? (i := 2) rfl) (fun v16 => ?_)
      refine xv_dup2 hY dX12_finds_134 rfl ?_
      refine xv_iald hY dX12_finds_135 rfl (fun v17 => ?_)
      refine xv_iconst hY dX12_finds_136 rfl ?_
      refine xv_iadd hY dX12_finds_137 rfl ?_
      refine xv_iast hY hfl dX12_finds_138 rfl (fun M18 => ?_)
      exact xv_vretu hY hfl dX12_finds_139 hret (Nat.le_of_ble_eq_true rfl) (Nat.le_of_ble_eq_true rfl)
  · refine xv_iload_n rfl rfl hY dX12_finds_44 rfl ?_
    refine xv_join (α := xv_M) 58 (fun x19 => [some (xr a0), some (xi a1), some (xi a2), some (xi x3.1), some (xi x3.2.1)]) (fun x19 => []) (fun x19 => x19) (fun x19 => ?_) (fun j20 hj20 => ?_)
    · refine xv_aload_n rfl rfl hY dX12_finds_58 rfl ?_
      refine xv_iload_n rfl rfl hY dX12_finds_59 rfl ?_
      refine xv_iconst hY dX12_finds_60 rfl ?_
      refine xv_callVI (ci := 12) (y := yX12_of) (ws := wsX12_of) (rm := rm_X12_of) (mc := 0) (ms := 0) (n := 2) (av := [xi a1, xi (3 : Int)]) hY dX12_finds_61 rfl rfl rfl (by decide) (fun q hq => by rw [hfl]; exact S_X12_of Y.1.2.1 a0 a1 (3 : Int) x19 q hq) (cwV 2 hY.2.2.2.2.1 gX12_finds_X12_of rfl rfl rfl (by decide +kernel) ⟨(by rw [hR]; exact Nat.le_of_ble_eq_true rfl), (by rw [hR]; exact Nat.le_of_ble_eq_true rfl)⟩) rfl (Nat.le_of_ble_eq_true rfl) ⟨(by rw [hR]; exact Nat.le_of_ble_eq_true rfl), (by rw [hR]; exact Nat.le_of_ble_eq_true rfl)⟩ (fun z22 M21 => ?_)
      refine xv_aload_n rfl rfl hY dX12_finds_64 rfl ?_
      refine xv_getI (ci := 12) (j := 13) hY dX12_finds_65 rfl rfl rfl (by decide) hin12 (by decide) rfl (List.mem_of_getElem? (i := 2) rfl) (fun v23 => ?_)
      refine xv_join (α := Int × Int) 89 (fun x24 => [some (xr a0), some (xi a1), some (xi a2), some (xi x24.1), some (xi x24.2)]) (fun x24 => []) (fun x24 => M21) (fun x24 => ?_) (fun j25 hj25 => ?_)
      · refine xv_aload_n rfl rfl hY dX12_finds_89 rfl ?_
        refine xv_iload_n rfl rfl hY dX12_finds_90 rfl ?_
        refine xv_iload rfl hY dX12_finds_91 rfl ?_
        refine xv_iadd hY dX12_finds_93 rfl ?_
        refine xv_iconst hY dX12_finds_94 rfl ?_
        refine xv_idiv hY dX12_finds_95 rfl ?_
        refine xv_putI (ci := 12) (j := 13) hY dX12_finds_96 rfl rfl rfl (by decide) hin12 (by decide) rfl (List.mem_of_getElem? (i := 2) rfl) tyX12_ok nmX12 (Or.inl rfl) rfl (fun M26 => ?_)
        refine xv_aload_n rfl rfl hY dX12_finds_99 rfl ?_
        refine xv_dupr hY dX12_finds_100 rfl ?_
        refine xv_getI (ci := 12) (j := 14) hY dX12_finds_101 rfl rfl rfl (by decide) hin12 (by decide) rfl (List.mem_of_getElem? (i := 1) rfl) (fun v27 => ?_)
        refine xv_iconst hY dX12_finds_104 rfl ?_
        refine xv_iadd hY dX12_finds_105 rfl ?_
        refine xv_putI (ci := 12) (j := 14) hY dX12_finds_106 rfl rfl rfl (by decide) hin12 (by decide) rfl (List.mem_of_getElem? (i := 1) rfl) tyX12_ok nmX12 (Or.inl rfl) rfl (fun M28 => ?_)
        refine xv_goto (pc' := 22) hY dX12_finds_109 (by decide) ?_
        exact xv_mk (L' := [some (xr a0), some (xi a1), some (xi a2), some (xi x24.1), some (xi x24.2)]) [true, true, true, true, true] rfl (hf4 (x24.1, x24.2, M28))
      · refine xv_icmp_ge (t := 82) hY dX12_finds_68 (by decide) rfl ?_ ?_
        · refine xv_aload_n rfl rfl hY dX12_finds_82 rfl ?_
          refine xv_getI (ci := 12) (j := 13) hY dX12_finds_83 rfl rfl rfl (by decide) hin12 (by decide) rfl (List.mem_of_getElem? (i := 2) rfl) (fun v29 => ?_)
          refine xv_iconst hY dX12_finds_86 rfl ?_
          refine xv_iadd hY dX12_finds_87 rfl ?_
          refine xv_istore_n (L' := [some (xr a0), some (xi a1), some (xi a2), some (xi (v29 + (1 : Int))), some (xi x3.2.1)]) hY dX12_finds_88 rfl rfl (by rw [hnL]; decide) rfl rfl ?_
          exact xv_mk (L' := [some (xr a0), some (xi a1), some (xi a2), some (xi (v29 + (1 : Int))), some (xi x3.2.1)]) [true, true, true, true, true] rfl (hj25 ((v29 + (1 : Int)), x3.2.1))
        · refine xv_aload_n rfl rfl hY dX12_finds_71 rfl ?_
          refine xv_getI (ci := 12) (j := 13) hY dX12_finds_72 rfl rfl rfl (by decide) hin12 (by decide) rfl (List.mem_of_getElem? (i := 2) rfl) (fun v30 => ?_)
          refine xv_iconst hY dX12_finds_75 rfl ?_
          refine xv_isub hY dX12_finds_76 rfl ?_
          refine xv_istore (L' := [some (xr a0), some (xi a1), some (xi a2), some (xi x3.1), some (xi (v30 - (1 : Int)))]) hY dX12_finds_77 rfl (by rw [hnL]; decide) rfl rfl ?_
          refine xv_goto (pc' := 89) hY dX12_finds_79 (by decide) ?_
          exact xv_mk (L' := [some (xr a0), some (xi a1), some (xi a2), some (xi x3.1), some (xi (v30 - (1 : Int)))]) [true, true, true, true, true] rfl (hj25 (x3.1, (v30 - (1 : Int))))
    · refine xv_if_eq (t := 58) hY dX12_finds_45 (by decide) rfl ?_ ?_
      · exact xv_mk (L' := [some (xr a0), some (xi a1), some (xi a2), some (xi x3.1), some (xi x3.2.1)]) [true, true, true, true, true] rfl (hj20 M10)
      · refine xv_aload_n rfl rfl hY dX12_finds_48 rfl ?_
        refine xv_getP (ci := 12) (j := 15) hY dX12_finds_49 rfl rfl rfl (by decide) hin12 (by decide) rfl (List.mem_of_getElem? (i := 3) rfl) (fun v31 => ?_)
        refine xv_aload_n rfl rfl hY dX12_finds_52 rfl ?_
        refine xv_getI (ci := 12) (j := 13) hY dX12_finds_53 rfl rfl rfl (by decide) hin12 (by decide) rfl (List.mem_of_getElem? (i := 2) rfl) (fun v32 => ?_)
        refine xv_iconst hY dX12_finds_56 rfl ?_
        refine xv_zast hY hfl dX12_finds_57 rfl (fun M33 => ?_)
        exact xv_mk (L' := [some (xr a0), some (xi a1), some (xi a2), some (xi x3.1), some (xi x3.2.1)]) [true, true, true, true, true] rfl (hj20 M33)
set_option maxHeartbeats 4000000 in
set_option maxRecDepth 100000 in
theorem S_X12_marks (l : Launch) (a0 : Nat) (M : xv_M) (q : Unit × xv_M) (h : D_X12_marks a0 M = some q) : xv_Met l yX12_marks wsX12_marks rm_X12_marks 0 0 false [xr a0] M (xv_qV false q) := by
  refine xv_enter (cc := cX12_marks) (nL := 2) (ret := none) rfl (by decide +kernel) (Nat.le_of_ble_eq_true rfl) h ?_
  intro Y hY0 hl hR hnL hfl hret hnm0
  have hY : xv_ok Y cX12_marks wsX12_marks RX12 := hY0
  have hin12 : ∀ w ∈ u_ws RX12 TX12 18, w ∈ wsX12_marks := fun _ h => List.mem_cons_of_mem _ (List.mem_append_right _ h)
  unfold D_X12_marks
  refine xv_mk (L' := [some (xr a0), none]) [true, true] rfl ?_
  refine xv_iconst hY dX12_marks_0 rfl ?_
  refine xv_istore_n (L' := [some (xr a0), some (xi (0 : Int))]) hY dX12_marks_1 rfl rfl (by rw [hnL]; decide) rfl rfl ?_
  refine xv_mk (L' := [some (xr a0), some (xi (0 : Int))]) [true, true] rfl ?_
  refine xv_loop (σ := Int × xv_M) (fun x1 => [some (xr a0), some (xi x1.1)]) (fun x1 => x1.2) (fun f2 hf2 x1 => ?_) xv_fuel ((0 : Int), M)
  refine xv_iload_n rfl rfl hY dX12_marks_2 rfl ?_
  refine xv_sipush (by decide) hY dX12_marks_3 rfl ?_
  refine xv_icmp_gt (t := 29) hY dX12_marks_6 (by decide) rfl ?_ ?_
  · refine xv_aload_n rfl rfl hY dX12_marks_29 rfl ?_
    refine xv_iconst hY dX12_marks_30 rfl ?_
    refine xv_putI (ci := 12) (j := 17) hY dX12_marks_31 rfl rfl rfl (by decide) hin12 (by decide) rfl (List.mem_of_getElem? (i := 3) rfl) tyX12_ok nmX12 (Or.inl rfl) rfl (fun M3 => ?_)
    refine xv_iconst hY dX12_marks_34 rfl ?_
    refine xv_istore_n (L' := [some (xr a0), some (xi (0 : Int))]) hY dX12_marks_35 rfl rfl (by rw [hnL]; decide) rfl rfl ?_
    refine xv_mk (L' := [some (xr a0), some (xi (0 : Int))]) [true, true] rfl ?_
    refine xv_loop (σ := Int × xv_M) (fun x4 => [some (xr a0), some (xi x4.1)]) (fun x4 => x4.2) (fun f5 hf5 x4 => ?_) xv_fuel ((0 : Int), M3)
    refine xv_iload_n rfl rfl hY dX12_marks_36 rfl ?_
    refine xv_aload_n rfl rfl hY dX12_marks_37 rfl ?_
    refine xv_getP (ci := 12) (j := 0) hY dX12_marks_38 rfl rfl rfl (by decide) hin12 (by decide) rfl (List.mem_of_getElem? (i := 4) rfl) (fun v6 => ?_)
    refine xv_iconst hY dX12_marks_41 rfl ?_
    refine xv_iald hY dX12_marks_42 rfl (fun v7 => ?_)
    refine xv_icmp_ge (t := 92) hY dX12_marks_43 (by decide) rfl ?_ ?_
    · exact xv_vretu hY hfl dX12_marks_92 hret (Nat.le_of_ble_eq_true rfl) (Nat.le_of_ble_eq_true rfl)
    · refine xv_aload_n rfl rfl hY dX12_marks_46 rfl ?_
      refine xv_iload_n rfl rfl hY dX12_marks_47 rfl ?_
      refine xv_callVI (ci := 12) (y := yX12_isThere) (ws := wsX12_isThere) (rm := rm_X12_isThere) (mc := 0) (ms := 0) (n := 1) (av := [xi x4.1]) hY dX12_marks_48 rfl rfl rfl (by decide) (fun q hq => by rw [hfl]; exact S_X12_isThere Y.1.2.1 a0 x4.1 x4.2 q hq) (cwV 1 hY.2.2.2.2.1 gX12_marks_X12_isThere rfl rfl rfl (by decide +kernel) ⟨(by rw [hR]; exact Nat.le_of_ble_eq_true rfl), (by rw [hR]; exact Nat.le_of_ble_eq_true rfl)⟩) rfl (Nat.le_of_ble_eq_true rfl) ⟨(by rw [hR]; exact Nat.le_of_ble_eq_true rfl), (by rw [hR]; exact Nat.le_of_ble_eq_true rfl)⟩ (fun z9 M8 => ?_)
      refine xv_join (α := xv_M) 86 (fun x10 => [some (xr a0), some (xi x4.1)]) (fun x10 => []) (fun x10 => x10) (fun x10 => ?_) (fun j11 hj11 => ?_)
      · refine xv_iinc (L' := [some (xr a0), some (xi (x4.1 + 1))]) hY dX12_marks_86 rfl (by rw [hnL]; decide) rfl rfl rfl ?_
        refine xv_goto (pc' := 36) hY dX12_marks_89 (by decide) ?_
        exact xv_mk (L' := [some (xr a0), some (xi (x4.1 + 1))]) [true, true] rfl (hf5 ((x4.1 + 1), x10))
      · refine xv_if_eq (t := 86) hY dX12_marks_51 (by decide) rfl ?_ ?_
        · exact xv_mk (L' := [some (xr a0), some (xi x4.1)]) [true, true] rfl (hj11 M8)
        · refine xv_aload_n rfl rfl hY dX12_marks_54 rfl ?_
          refine xv_iload_n rfl rfl hY dX12_marks_55 rfl ?_
          refine xv_iconst hY dX12_marks_56 rfl ?_
          refine xv_callVV (ci := 12) (y := yX12_finds) (ws := wsX12_finds) (rm := rm_X12_finds) (mc := 0) (ms := 0) (n := 2) (av := [xi x4.1, xi (1 : Int)]) hY dX12_marks_57 rfl rfl rfl (by decide) (fun q hq => by rw [hfl]; exact S_X12_finds Y.1.2.1 a0 x4.1 (1 : Int) M8 q hq) (cwV 2 hY.2.2.2.2.1 gX12_marks_X12_finds rfl rfl rfl (by decide +kernel) ⟨(by rw [hR]; exact Nat.le_of_ble_eq_true rfl), (by rw [hR]; exact Nat.le_of_ble_eq_true rfl)⟩) rfl (Nat.le_of_ble_eq_true rfl) ⟨(by rw [hR]; exact Nat.le_of_ble_eq_true rfl), (by rw [hR]; exact Nat.le_of_ble_eq_true rfl)⟩ (fun _ M12 => ?_)
          refine xv_aload_n rfl rfl hY dX12_marks_60 rfl ?_
          refine xv_aload_n rfl rfl hY dX12_marks_61 rfl ?_
          refine xv_getI (ci := 12) (j := 14) hY dX12_marks_62 rfl rfl rfl (by decide) hin12 (by decide) rfl (List.mem_of_getElem? (i := 5) rfl) (fun v13 => ?_)
          refine xv_aload_n rfl rfl hY dX12_marks_65 rfl ?_
          refine xv_getI (ci := 12) (j := 17) hY dX12_marks_66 rfl rfl rfl (by decide) hin12 (by decide) rfl (List.mem_of_getElem? (i := 3) rfl) (fun v14 => ?_)
          refine xv_join (α := Nat × Int) 83 (fun x15 => [some (xr a0), some (xi x4.1)]) (fun x15 => [xi x15.2, xr x15.1]) (fun x15 => M12) (fun x15 => ?_) (fun j16 hj16 => ?_)
          · refine xv_putI (ci := 12) (j := 17) hY dX12_marks_83 rfl rfl rfl (by decide) hin12 (by decide) rfl (List.mem_of_getElem? (i := 3) rfl) tyX12_ok nmX12 (Or.inl rfl) rfl (fun M17 => ?_)
            exact xv_mk (L' := [some (xr a0), some (xi x4.1)]) [true, true] rfl (hj11 M17)
          · refine xv_icmp_le (t := 79) hY dX12_marks_69 (by decide) rfl ?_ ?_
            · refine xv_aload_n rfl rfl hY dX12_marks_79 rfl ?_
              refine xv_getI (ci := 12) (j := 17) hY dX12_marks_80 rfl rfl rfl (by decide) hin12 (by decide) rfl (List.mem_of_getElem? (i := 3) rfl) (fun v18 => ?_)
              exact xv_mk (L' := [some (xr a0), some (xi x4.1)]) [true, true] rfl (hj16 (a0, v18))
            · refine xv_aload_n rfl rfl hY dX12_marks_72 rfl ?_
              refine xv_getI (ci := 12) (j := 14) hY dX12_marks_73 rfl rfl rfl (by decide) hin12 (by decide) rfl (List.mem_of_getElem? (i := 5) rfl) (fun v19 => ?_)
              refine xv_goto (pc' := 83) hY dX12_marks_76 (by decide) ?_
              exact xv_mk (L' := [some (xr a0), some (xi x4.1)]) [true, true] rfl (hj16 (a0, v19))
  · refine xv_aload_n rfl rfl hY dX12_marks_9 rfl ?_
    refine xv_getP (ci := 12) (j := 15) hY dX12_marks_10 rfl rfl rfl (by decide) hin12 (by decide) rfl (List.mem_of_getElem? (i := 1) rfl) (fun v20 => ?_)
    refine xv_iload_n rfl rfl hY dX12_marks_13 rfl ?_
    refine xv_iconst hY dX12_marks_14 rfl ?_
    refine xv_zast hY hfl dX12_marks_15 rfl (fun M21 => ?_)
    refine xv_aload_n rfl rfl hY dX12_marks_16 rfl ?_
    refine xv_getP (ci := 12) (j := 16) hY dX12_marks_17 rfl rfl rfl (by decide) hin12 (by decide) rfl (List.mem_of_getElem? (i := 2) rfl) (fun v22 => ?_)
    refine xv_iload_n rfl rfl hY dX12_marks_20 rfl ?_
    refine xv_iconst hY dX12_marks_21 rfl ?_
    refine xv_iast hY hfl dX12_marks_22 rfl (fun M23 => ?_)
    refine xv_iinc (L' := [some (xr a0), some (xi (x1.1 + 1))]) hY dX12_marks_23 rfl (by rw [hnL]; decide) rfl rfl rfl ?_
    refine xv_goto (pc' := 2) hY dX12_marks_26 (by decide) ?_
    exact xv_mk (L' := [some (xr a0), some (xi (x1.1 + 1))]) [true, true] rfl (hf2 ((x1.1 + 1), M23))
set_option maxHeartbeats 4000000 in
set_option maxRecDepth 100000 in
theorem S_X12_index (l : Launch) (a0 : Nat) (a1 : Int) (M : xv_M) (q : Int × xv_M) (h : D_X12_index a0 a1 M = some q) : xv_Met l yX12_index wsX12_index rm_X12_index 0 0 false [xr a0, xi a1] M (xv_qI false q) := by
  refine xv_enter (cc := cX12_index) (nL := 5) (ret := (some .int)) rfl (by decide +kernel) (Nat.le_of_ble_eq_true rfl) h ?_
  intro Y hY0 hl hR hnL hfl hret hnm0
  have hY : xv_ok Y cX12_index wsX12_index RX12 := hY0
  have hin12 : ∀ w ∈ u_ws RX12 TX12 18, w ∈ wsX12_index := fun _ h => List.mem_cons_of_mem _ (List.mem_append_right _ h)
  unfold D_X12_index
  refine xv_mk (L' := [some (xr a0), some (xi a1), none, none, none]) [true, true, true, true, true] rfl ?_
  refine xv_iload_n rfl rfl hY dX12_index_0 rfl ?_
  refine xv_iconst hY dX12_index_1 rfl ?_
  refine xv_iconst hY dX12_index_2 rfl ?_
  refine xv_callSI (y := yX12_in) (ws := wsX12_in) (rm := rm_X12_in) (mc := 0) (ms := 0) (n := 3) (av := [xi a1, xi (0 : Int), xi (3 : Int)]) hY dX12_index_3 rfl rfl (fun q hq => by rw [hfl]; exact S_X12_in Y.1.2.1 a1 (0 : Int) (3 : Int) M q hq) (va_cwS 3 hY.2.2.2.2.1 gX12_index_X12_in rfl rfl rfl (by decide +kernel) ⟨(by rw [hR]; exact Nat.le_of_ble_eq_true rfl), (by rw [hR]; exact Nat.le_of_ble_eq_true rfl)⟩) rfl (Nat.le_of_ble_eq_true rfl) ⟨(by rw [hR]; exact Nat.le_of_ble_eq_true rfl), (by rw [hR]; exact Nat.le_of_ble_eq_true rfl)⟩ (fun z2 M1 => ?_)
  refine xv_if_ne (t := 12) hY dX12_index_6 (by decide) rfl ?_ ?_
  · refine xv_aload_n rfl rfl hY dX12_index_12 rfl ?_
    refine xv_callVI (ci := 12) (y := yX12_there) (ws := wsX12_there) (rm := rm_X12_there) (mc := 0) (ms := 0) (n := 0) (av := []) hY dX12_index_13 rfl rfl rfl (by decide) (fun q hq => by rw [hfl]; exact S_X12_there Y.1.2.1 a0 M1 q hq) (cwV 0 hY.2.2.2.2.1 gX12_index_X12_there rfl rfl rfl (by decide +kernel) ⟨(by rw [hR]; exact Nat.le_of_ble_eq_true rfl), (by rw [hR]; exact Nat.le_of_ble_eq_true rfl)⟩) rfl (Nat.le_of_ble_eq_true rfl) ⟨(by rw [hR]; exact Nat.le_of_ble_eq_true rfl), (by rw [hR]; exact Nat.le_of_ble_eq_true rfl)⟩ (fun z4 M3 => ?_)
    refine xv_if_ne (t := 22) hY dX12_index_16 (by decide) rfl ?_ ?_
    · refine xv_aload_n rfl rfl hY dX12_index_22 rfl ?_
      refine xv_callVV (ci := 12) (y := yX12_marks) (ws := wsX12_marks) (rm := rm_X12_marks) (mc := 0) (ms := 0) (n := 0) (av := []) hY dX12_index_23 rfl rfl rfl (by decide) (fun q hq => by rw [hfl]; exact S_X12_marks Y.1.2.1 a0 M3 q hq) (cwV 0 hY.2.2.2.2.1 gX12_index_X12_marks rfl rfl rfl (by decide +kernel) ⟨(by rw [hR]; exact Nat.le_of_ble_eq_true rfl), (by rw [hR]; exact Nat.le_of_ble_eq_true rfl)⟩) rfl (Nat.le_of_ble_eq_true rfl) ⟨(by rw [hR]; exact Nat.le_of_ble_eq_true rfl), (by rw [hR]; exact Nat.le_of_ble_eq_true rfl)⟩ (fun _ M5 => ?_)
      refine xv_iconst hY dX12_index_26 rfl ?_
      refine xv_istore_n (L' := [some (xr a0), some (xi a1), some (xi (0 : Int)), none, none]) hY dX12_index_27 rfl rfl (by rw [hnL]; decide) rfl rfl ?_
      refine xv_iconst hY dX12_index_28 rfl ?_
      refine xv_istore_n (L' := [some (xr a0), some (xi a1), some (xi (0 : Int)), some (xi (0 : Int)), none]) hY dX12_index_29 rfl rfl (by rw [hnL]; decide) rfl rfl ?_
      refine xv_iconst hY dX12_index_30 rfl ?_
      refine xv_istore (L' := [some (xr a0), some (xi a1), some (xi (0 : Int)), some (xi (0 : Int)), some (xi (0 : Int))]) hY dX12_index_31 rfl (by rw [hnL]; decide) rfl rfl ?_
      refine xv_mk (L' := [some (xr a0), some (xi a1), some (xi (0 : Int)), some (xi (0 : Int)), some (xi (0 : Int))]) [true, true, true, true, true] rfl ?_
      refine xv_loop (σ := Int × Int × Int) (fun x6 => [some (xr a0), some (xi a1), some (xi x6.1), some (xi x6.2.1), some (xi x6.2.2)]) (fun x6 => M5) (fun f7 hf7 x6 => ?_) xv_fuel ((0 : Int), (0 : Int), (0 : Int))
      refine xv_iload rfl hY dX12_index_33 rfl ?_
      refine xv_sipush (by decide) hY dX12_index_35 rfl ?_
      refine xv_icmp_gt (t := 88) hY dX12_index_38 (by decide) rfl ?_ ?_
      · refine xv_iload_n rfl rfl hY dX12_index_88 rfl ?_
        refine xv_if_ne (t := 96) hY dX12_index_89 (by decide) rfl ?_ ?_
        · refine xv_iload_n rfl rfl hY dX12_index_96 rfl ?_
          refine xv_iconst hY dX12_index_97 rfl ?_
          refine xv_icmp_ne (t := 108) hY dX12_index_98 (by decide) rfl ?_ ?_
          · refine xv_iload_n rfl rfl hY dX12_index_108 rfl ?_
            refine xv_iconst hY dX12_index_109 rfl ?_
            refine xv_icmp_ne (t := 122) hY dX12_index_110 (by decide) rfl ?_ ?_
            · refine xv_iload_n rfl rfl hY dX12_index_122 rfl ?_
              exact xv_ireti hY hfl dX12_index_123 hret (Nat.le_of_ble_eq_true rfl) (Nat.le_of_ble_eq_true rfl)
            · refine xv_aload_n rfl rfl hY dX12_index_113 rfl ?_
              refine xv_getP (ci := 12) (j := 16) hY dX12_index_114 rfl rfl rfl (by decide) hin12 (by decide) rfl (List.mem_of_getElem? (i := 2) rfl) (fun v8 => ?_)
              refine xv_iload_n rfl rfl hY dX12_index_117 rfl ?_
              refine xv_iald hY dX12_index_118 rfl (fun v9 => ?_)
              refine xv_goto (pc' := 123) hY dX12_index_119 (by decide) ?_
              exact xv_ireti hY hfl dX12_index_123 hret (Nat.le_of_ble_eq_true rfl) (Nat.le_of_ble_eq_true rfl)
          · refine xv_aload_n rfl rfl hY dX12_index_101 rfl ?_
            refine xv_getI (ci := 12) (j := 17) hY dX12_index_102 rfl rfl rfl (by decide) hin12 (by decide) rfl (List.mem_of_getElem? (i := 3) rfl) (fun v10 => ?_)
            refine xv_goto (pc' := 123) hY dX12_index_105 (by decide) ?_
            exact xv_ireti hY hfl dX12_index_123 hret (Nat.le_of_ble_eq_true rfl) (Nat.le_of_ble_eq_true rfl)
        · refine xv_iload_n rfl rfl hY dX12_index_92 rfl ?_
          refine xv_goto (pc' := 123) hY dX12_index_93 (by decide) ?_
          exact xv_ireti hY hfl dX12_index_123 hret (Nat.le_of_ble_eq_true rfl) (Nat.le_of_ble_eq_true rfl)
      · refine xv_iload_n rfl rfl hY dX12_index_41 rfl ?_
        refine xv_aload_n rfl rfl hY dX12_index_42 rfl ?_
        refine xv_getP (ci := 12) (j := 15) hY dX12_index_43 rfl rfl rfl (by decide) hin12 (by decide) rfl (List.mem_of_getElem? (i := 1) rfl) (fun v11 => ?_)
        refine xv_iload rfl hY dX12_index_46 rfl ?_
        refine xv_zald hY dX12_index_48 rfl (fun v12 => ?_)
        refine xv_join (α := Int × Int) 57 (fun x13 => [some (xr a0), some (xi a1), none, some (xi x6.2.1), some (xi x6.2.2)]) (fun x13 => [xi x13.2, xi x13.1]) (fun x13 => M5) (fun x13 => ?_) (fun j14 hj14 => ?_)
        · refine xv_iadd hY dX12_index_57 rfl ?_
          refine xv_istore_n (L' := [some (xr a0), some (xi a1), some (xi (x13.1 + x13.2)), some (xi x6.2.1), some (xi x6.2.2)]) hY dX12_index_58 rfl rfl (by rw [hnL]; decide) rfl rfl ?_
          refine xv_aload_n rfl rfl hY dX12_index_59 rfl ?_
          refine xv_getP (ci := 12) (j := 16) hY dX12_index_60 rfl rfl rfl (by decide) hin12 (by decide) rfl (List.mem_of_getElem? (i := 2) rfl) (fun v15 => ?_)
          refine xv_iload rfl hY dX12_index_63 rfl ?_
          refine xv_iald hY dX12_index_65 rfl (fun v16 => ?_)
          refine xv_aload_n rfl rfl hY dX12_index_66 rfl ?_
          refine xv_getP (ci := 12) (j := 16) hY dX12_index_67 rfl rfl rfl (by decide) hin12 (by decide) rfl (List.mem_of_getElem? (i := 2) rfl) (fun v17 => ?_)
          refine xv_iload_n rfl rfl hY dX12_index_70 rfl ?_
          refine xv_iald hY dX12_index_71 rfl (fun v18 => ?_)
          refine xv_join (α := Int) 81 (fun x19 => [some (xr a0), some (xi a1), some (xi (x13.1 + x13.2)), none, some (xi x6.2.2)]) (fun x19 => [xi x19]) (fun x19 => M5) (fun x19 => ?_) (fun j20 hj20 => ?_)
          · refine xv_istore_n (L' := [some (xr a0), some (xi a1), some (xi (x13.1 + x13.2)), some (xi x19), some (xi x6.2.2)]) hY dX12_index_81 rfl rfl (by rw [hnL]; decide) rfl rfl ?_
            refine xv_iinc (L' := [some (xr a0), some (xi a1), some (xi (x13.1 + x13.2)), some (xi x19), some (xi (x6.2.2 + 1))]) hY dX12_index_82 rfl (by rw [hnL]; decide) rfl rfl rfl ?_
            refine xv_goto (pc' := 33) hY dX12_index_85 (by decide) ?_
            exact xv_mk (L' := [some (xr a0), some (xi a1), some (xi (x13.1 + x13.2)), some (xi x19), some (xi (x6.2.2 + 1))]) [true, true, true, true, true] rfl (hf7 ((x13.1 + x13.2), x19, (x6.2.2 + 1)))
          · refine xv_icmp_le (t := 80) hY dX12_index_72 (by decide) rfl ?_ ?_
            · refine xv_iload_n rfl rfl hY dX12_index_80 rfl ?_
              exact xv_mk (L' := [some (xr a0), some (xi a1), some (xi (x13.1 + x13.2)), none, some (xi x6.2.2)]) [true, true, true, false, true] rfl (hj20 x6.2.1)
            · refine xv_iload rfl hY dX12_index_75 rfl ?_
              refine xv_goto (pc' := 81) hY dX12_index_77 (by decide) ?_
              exact xv_mk (L' := [some (xr a0), some (xi a1), some (xi (x13.1 + x13.2)), none, some (xi x6.2.2)]) [true, true, true, false, true] rfl (hj20 x6.2.2)
        · refine xv_if_eq (t := 56) hY dX12_index_49 (by decide) rfl ?_ ?_
          · refine xv_iconst hY dX12_index_56 rfl ?_
            exact xv_mk (L' := [some (xr a0), some (xi a1), none, some (xi x6.2.1), some (xi x6.2.2)]) [true, true, false, true, true] rfl (hj14 (x6.1, (0 : Int)))
          · refine xv_iconst hY dX12_index_52 rfl ?_
            refine xv_goto (pc' := 57) hY dX12_index_53 (by decide) ?_
            exact xv_mk (L' := [some (xr a0), some (xi a1), none, some (xi x6.2.1), some (xi x6.2.2)]) [true, true, false, true, true] rfl (hj14 (x6.1, (1 : Int)))
    · refine xv_bipush (by decide) hY dX12_index_19 rfl ?_
      exact xv_ireti hY hfl dX12_index_21 hret (Nat.le_of_ble_eq_true rfl) (Nat.le_of_ble_eq_true rfl)
  · refine xv_bipush (by decide) hY dX12_index_9 rfl ?_
    exact xv_ireti hY hfl dX12_index_11 hret (Nat.le_of_ble_eq_true rfl) (Nat.le_of_ble_eq_true rfl)
set_option maxHeartbeats 4000000 in
set_option maxRecDepth 100000 in
theorem S_X12_looked (l : Launch) (a0 : Nat) (a1 : Int) (a2 : Int) (M : xv_M) (q : Int × xv_M) (h : D_X12_looked a0 a1 a2 M = some q) : xv_Met l yX12_looked wsX12_looked rm_X12_looked 0 0 false [xr a0, xi a1, xi a2] M (xv_qI false q) := by
  refine xv_enter (cc := cX12_looked) (nL := 7) (ret := (some .int)) rfl (by decide +kernel) (Nat.le_of_ble_eq_true rfl) h ?_
  intro Y hY0 hl hR hnL hfl hret hnm0
  have hY : xv_ok Y cX12_looked wsX12_looked RX12 := hY0
  have hin12 : ∀ w ∈ u_ws RX12 TX12 18, w ∈ wsX12_looked := fun _ h => List.mem_cons_of_mem _ (List.mem_append_right _ h)
  unfold D_X12_looked
  refine xv_mk (L' := [some (xr a0), some (xi a1), some (xi a2), none, none, none, none]) [true, true, true, true, true, true, true] rfl ?_
  refine xv_iconst hY dX12_looked_0 rfl ?_
  refine xv_istore_n (L' := [some (xr a0), some (xi a1), some (xi a2), some (xi (0 : Int)), none, none, none]) hY dX12_looked_1 rfl rfl (by rw [hnL]; decide) rfl rfl ?_
  refine xv_iconst hY dX12_looked_2 rfl ?_
  refine xv_istore (L' := [some (xr a0), some (xi a1), some (xi a2), some (xi (0 : Int)), some (xi (0 : Int)), none, none]) hY dX12_looked_3 rfl (by rw [hnL]; decide) rfl rfl ?_
  refine xv_iconst hY dX12_looked_5 rfl ?_
  refine xv_istore (L' := [some (xr a0), some (xi a1), some (xi a2), some (xi (0 : Int)), some (xi (0 : Int)), some (xi (0 : Int)), none]) hY dX12_looked_6 rfl (by rw [hnL]; decide) rfl rfl ?_
  refine xv_mk (L' := [some (xr a0), some (xi a1), some (xi a2), some (xi (0 : Int)), some (xi (0 : Int)), some (xi (0 : Int)), none]) [true, true, true, true, true, true, false] rfl ?_
  refine xv_loop (σ := Int × Int × Int × xv_M) (fun x1 => [some (xr a0), some (xi a1), some (xi a2), some (xi x1.1), some (xi x1.2.1), some (xi x1.2.2.1), none]) (fun x1 => x1.2.2.2) (fun f2 hf2 x1 => ?_) xv_fuel ((0 : Int), (0 : Int), (0 : Int), M)
  refine xv_iload rfl hY dX12_looked_8 rfl ?_
  refine xv_aload_n rfl rfl hY dX12_looked_10 rfl ?_
  refine xv_getP (ci := 12) (j := 0) hY dX12_looked_11 rfl rfl rfl (by decide) hin12 (by decide) rfl (List.mem_of_getElem? (i := 1) rfl) (fun v3 => ?_)
  refine xv_iconst hY dX12_looked_14 rfl ?_
  refine xv_iald hY dX12_looked_15 rfl (fun v4 => ?_)
  refine xv_icmp_ge (t := 125) hY dX12_looked_16 (by decide) rfl ?_ ?_
  · refine xv_iload rfl hY dX12_looked_125 rfl ?_
    refine xv_if_eq (t := 136) hY dX12_looked_127 (by decide) rfl ?_ ?_
    · refine xv_iload_n rfl rfl hY dX12_looked_136 rfl ?_
      exact xv_ireti hY hfl dX12_looked_137 hret (Nat.le_of_ble_eq_true rfl) (Nat.le_of_ble_eq_true rfl)
    · refine xv_iload_n rfl rfl hY dX12_looked_130 rfl ?_
      refine xv_iconst hY dX12_looked_131 rfl ?_
      refine xv_iadd hY dX12_looked_132 rfl ?_
      refine xv_goto (pc' := 137) hY dX12_looked_133 (by decide) ?_
      exact xv_ireti hY hfl dX12_looked_137 hret (Nat.le_of_ble_eq_true rfl) (Nat.le_of_ble_eq_true rfl)
  · refine xv_aload_n rfl rfl hY dX12_looked_19 rfl ?_
    refine xv_iload rfl hY dX12_looked_20 rfl ?_
    refine xv_callVI (ci := 12) (y := yX12_isThere) (ws := wsX12_isThere) (rm := rm_X12_isThere) (mc := 0) (ms := 0) (n := 1) (av := [xi x1.2.2.1]) hY dX12_looked_22 rfl rfl rfl (by decide) (fun q hq => by rw [hfl]; exact S_X12_isThere Y.1.2.1 a0 x1.2.2.1 x1.2.2.2 q hq) (cwV 1 hY.2.2.2.2.1 gX12_looked_X12_isThere rfl rfl rfl (by decide +kernel) ⟨(by rw [hR]; exact Nat.le_of_ble_eq_true rfl), (by rw [hR]; exact Nat.le_of_ble_eq_true rfl)⟩) rfl (Nat.le_of_ble_eq_true rfl) ⟨(by rw [hR]; exact Nat.le_of_ble_eq_true rfl), (by rw [hR]; exact Nat.le_of_ble_eq_true rfl)⟩ (fun z6 M5 => ?_)
    refine xv_join (α := Int × Int × xv_M) 119 (fun x7 => [some (xr a0), some (xi a1), some (xi a2), some (xi x7.1), some (xi x7.2.1), some (xi x1.2.2.1), none]) (fun x7 => []) (fun x7 => x7.2.2) (fun x7 => ?_) (fun j8 hj8 => ?_)
    · refine xv_iinc (L' := [some (xr a0), some (xi a1), some (xi a2), some (xi x7.1), some (xi x7.2.1), some (xi (x1.2.2.1 + 1)), none]) hY dX12_looked_119 rfl (by rw [hnL]; decide) rfl rfl rfl ?_
      refine xv_goto (pc' := 8) hY dX12_looked_122 (by decide) ?_
      exact xv_mk (L' := [some (xr a0), some (xi a1), some (xi a2), some (xi x7.1), some (xi x7.2.1), some (xi (x1.2.2.1 + 1)), none]) [true, true, true, true, true, true, false] rfl (hf2 (x7.1, x7.2.1, (x1.2.2.1 + 1), x7.2.2))
    · refine xv_if_ne (t := 31) hY dX12_looked_25 (by decide) rfl ?_ ?_
      · refine xv_aload_n rfl rfl hY dX12_looked_31 rfl ?_
        refine xv_iload rfl hY dX12_looked_32 rfl ?_
        refine xv_iconst hY dX12_looked_34 rfl ?_
        refine xv_callVV (ci := 12) (y := yX12_finds) (ws := wsX12_finds) (rm := rm_X12_finds) (mc := 0) (ms := 0) (n := 2) (av := [xi x1.2.2.1, xi (0 : Int)]) hY dX12_looked_35 rfl rfl rfl (by decide) (fun q hq => by rw [hfl]; exact S_X12_finds Y.1.2.1 a0 x1.2.2.1 (0 : Int) M5 q hq) (cwV 2 hY.2.2.2.2.1 gX12_looked_X12_finds rfl rfl rfl (by decide +kernel) ⟨(by rw [hR]; exact Nat.le_of_ble_eq_true rfl), (by rw [hR]; exact Nat.le_of_ble_eq_true rfl)⟩) rfl (Nat.le_of_ble_eq_true rfl) ⟨(by rw [hR]; exact Nat.le_of_ble_eq_true rfl), (by rw [hR]; exact Nat.le_of_ble_eq_true rfl)⟩ (fun _ M9 => ?_)
        refine xv_aload_n rfl rfl hY dX12_looked_38 rfl ?_
        refine xv_getI (ci := 12) (j := 13) hY dX12_looked_39 rfl rfl rfl (by decide) hin12 (by decide) rfl (List.mem_of_getElem? (i := 2) rfl) (fun v10 => ?_)
        refine xv_iload_n rfl rfl hY dX12_looked_42 rfl ?_
        refine xv_icmp_eq (t := 49) hY dX12_looked_43 (by decide) rfl ?_ ?_
        · refine xv_iload_n rfl rfl hY dX12_looked_49 rfl ?_
          refine xv_iload_n rfl rfl hY dX12_looked_50 rfl ?_
          refine xv_join (α := Int × xv_M) 89 (fun x11 => [some (xr a0), some (xi a1), some (xi a2), some (xi x1.1), some (xi x1.2.1), some (xi x1.2.2.1), none]) (fun x11 => [xi x11.1]) (fun x11 => x11.2) (fun x11 => ?_) (fun j12 hj12 => ?_)
          · refine xv_istore (L' := [some (xr a0), some (xi a1), some (xi a2), some (xi x1.1), some (xi x1.2.1), some (xi x1.2.2.1), some (xi x11.1)]) hY dX12_looked_89 rfl (by rw [hnL]; decide) rfl rfl ?_
            refine xv_iload_n rfl rfl hY dX12_looked_91 rfl ?_
            refine xv_iload rfl hY dX12_looked_92 rfl ?_
            refine xv_join (α := Int × Int) 102 (fun x13 => [some (xr a0), some (xi a1), some (xi a2), none, some (xi x1.2.1), some (xi x1.2.2.1), some (xi x11.1)]) (fun x13 => [xi x13.2, xi x13.1]) (fun x13 => x11.2) (fun x13 => ?_) (fun j14 hj14 => ?_)
            · refine xv_iadd hY dX12_looked_102 rfl ?_
              refine xv_istore_n (L' := [some (xr a0), some (xi a1), some (xi a2), some (xi (x13.1 + x13.2)), some (xi x1.2.1), some (xi x1.2.2.1), some (xi x11.1)]) hY dX12_looked_103 rfl rfl (by rw [hnL]; decide) rfl rfl ?_
              refine xv_iload rfl hY dX12_looked_104 rfl ?_
              refine xv_iload rfl hY dX12_looked_106 rfl ?_
              refine xv_join (α := Int × Int) 116 (fun x15 => [some (xr a0), some (xi a1), some (xi a2), some (xi (x13.1 + x13.2)), none, some (xi x1.2.2.1), none]) (fun x15 => [xi x15.2, xi x15.1]) (fun x15 => x11.2) (fun x15 => ?_) (fun j16 hj16 => ?_)
              · refine xv_ior hY dX12_looked_116 rfl ?_
                refine xv_istore (L' := [some (xr a0), some (xi a1), some (xi a2), some (xi (x13.1 + x13.2)), some (xi (((Int32.ofInt x15.1) ||| (Int32.ofInt x15.2)).toInt)), some (xi x1.2.2.1), none]) hY dX12_looked_117 rfl (by rw [hnL]; decide) rfl rfl ?_
                exact xv_mk (L' := [some (xr a0), some (xi a1), some (xi a2), some (xi (x13.1 + x13.2)), some (xi (((Int32.ofInt x15.1) ||| (Int32.ofInt x15.2)).toInt)), some (xi x1.2.2.1), none]) [true, true, true, true, true, true, false] rfl (hj8 ((x13.1 + x13.2), (((Int32.ofInt x15.1) ||| (Int32.ofInt x15.2)).toInt), x11.2))
              · refine xv_if_ne (t := 115) hY dX12_looked_108 (by decide) rfl ?_ ?_
                · refine xv_iconst hY dX12_looked_115 rfl ?_
                  exact xv_mk (L' := [some (xr a0), some (xi a1), some (xi a2), some (xi (x13.1 + x13.2)), none, some (xi x1.2.2.1), none]) [true, true, true, true, false, true, false] rfl (hj16 (x1.2.1, (0 : Int)))
                · refine xv_iconst hY dX12_looked_111 rfl ?_
                  refine xv_goto (pc' := 116) hY dX12_looked_112 (by decide) ?_
                  exact xv_mk (L' := [some (xr a0), some (xi a1), some (xi a2), some (xi (x13.1 + x13.2)), none, some (xi x1.2.2.1), none]) [true, true, true, true, false, true, false] rfl (hj16 (x1.2.1, (1 : Int)))
            · refine xv_if_eq (t := 101) hY dX12_looked_94 (by decide) rfl ?_ ?_
              · refine xv_iconst hY dX12_looked_101 rfl ?_
                exact xv_mk (L' := [some (xr a0), some (xi a1), some (xi a2), none, some (xi x1.2.1), some (xi x1.2.2.1), some (xi x11.1)]) [true, true, true, false, true, true, true] rfl (hj14 (x1.1, (0 : Int)))
              · refine xv_iconst hY dX12_looked_97 rfl ?_
                refine xv_goto (pc' := 102) hY dX12_looked_98 (by decide) ?_
                exact xv_mk (L' := [some (xr a0), some (xi a1), some (xi a2), none, some (xi x1.2.1), some (xi x1.2.2.1), some (xi x11.1)]) [true, true, true, false, true, true, true] rfl (hj14 (x1.1, (1 : Int)))
          · refine xv_join (α := xv_M) 84 (fun x17 => [some (xr a0), some (xi a1), some (xi a2), some (xi x1.1), some (xi x1.2.1), some (xi x1.2.2.1), none]) (fun x17 => []) (fun x17 => x17) (fun x17 => ?_) (fun j18 hj18 => ?_)
            · refine xv_iconst hY dX12_looked_84 rfl ?_
              refine xv_goto (pc' := 89) hY dX12_looked_85 (by decide) ?_
              exact xv_mk (L' := [some (xr a0), some (xi a1), some (xi a2), some (xi x1.1), some (xi x1.2.1), some (xi x1.2.2.1), none]) [true, true, true, true, true, true, false] rfl (hj12 ((1 : Int), x17))
            · refine xv_icmp_eq (t := 84) hY dX12_looked_51 (by decide) rfl ?_ ?_
              · exact xv_mk (L' := [some (xr a0), some (xi a1), some (xi a2), some (xi x1.1), some (xi x1.2.1), some (xi x1.2.2.1), none]) [true, true, true, true, true, true, false] rfl (hj18 M9)
              · refine xv_iload_n rfl rfl hY dX12_looked_54 rfl ?_
                refine xv_iload_n rfl rfl hY dX12_looked_55 rfl ?_
                refine xv_join (α := xv_M) 88 (fun x19 => [some (xr a0), some (xi a1), some (xi a2), some (xi x1.1), some (xi x1.2.1), some (xi x1.2.2.1), none]) (fun x19 => []) (fun x19 => x19) (fun x19 => ?_) (fun j20 hj20 => ?_)
                · refine xv_iconst hY dX12_looked_88 rfl ?_
                  exact xv_mk (L' := [some (xr a0), some (xi a1), some (xi a2), some (xi x1.1), some (xi x1.2.1), some (xi x1.2.2.1), none]) [true, true, true, true, true, true, false] rfl (hj12 ((0 : Int), x19))
                · refine xv_icmp_ge (t := 73) hY dX12_looked_56 (by decide) rfl ?_ ?_
                  · refine xv_aload_n rfl rfl hY dX12_looked_73 rfl ?_
                    refine xv_iload rfl hY dX12_looked_74 rfl ?_
                    refine xv_iconst hY dX12_looked_76 rfl ?_
                    refine xv_callVI (ci := 12) (y := yX12_of) (ws := wsX12_of) (rm := rm_X12_of) (mc := 0) (ms := 0) (n := 2) (av := [xi x1.2.2.1, xi (3 : Int)]) hY dX12_looked_77 rfl rfl rfl (by decide) (fun q hq => by rw [hfl]; exact S_X12_of Y.1.2.1 a0 x1.2.2.1 (3 : Int) M9 q hq) (cwV 2 hY.2.2.2.2.1 gX12_looked_X12_of rfl rfl rfl (by decide +kernel) ⟨(by rw [hR]; exact Nat.le_of_ble_eq_true rfl), (by rw [hR]; exact Nat.le_of_ble_eq_true rfl)⟩) rfl (Nat.le_of_ble_eq_true rfl) ⟨(by rw [hR]; exact Nat.le_of_ble_eq_true rfl), (by rw [hR]; exact Nat.le_of_ble_eq_true rfl)⟩ (fun z22 M21 => ?_)
                    refine xv_iload_n rfl rfl hY dX12_looked_80 rfl ?_
                    refine xv_icmp_lt (t := 88) hY dX12_looked_81 (by decide) rfl ?_ ?_
                    · exact xv_mk (L' := [some (xr a0), some (xi a1), some (xi a2), some (xi x1.1), some (xi x1.2.1), some (xi x1.2.2.1), none]) [true, true, true, true, true, true, false] rfl (hj20 M21)
                    · exact xv_mk (L' := [some (xr a0), some (xi a1), some (xi a2), some (xi x1.1), some (xi x1.2.1), some (xi x1.2.2.1), none]) [true, true, true, true, true, true, false] rfl (hj18 M21)
                  · refine xv_aload_n rfl rfl hY dX12_looked_59 rfl ?_
                    refine xv_iload rfl hY dX12_looked_60 rfl ?_
                    refine xv_iconst hY dX12_looked_62 rfl ?_
                    refine xv_callVI (ci := 12) (y := yX12_of) (ws := wsX12_of) (rm := rm_X12_of) (mc := 0) (ms := 0) (n := 2) (av := [xi x1.2.2.1, xi (2 : Int)]) hY dX12_looked_63 rfl rfl rfl (by decide) (fun q hq => by rw [hfl]; exact S_X12_of Y.1.2.1 a0 x1.2.2.1 (2 : Int) M9 q hq) (cwV 2 hY.2.2.2.2.1 gX12_looked_X12_of rfl rfl rfl (by decide +kernel) ⟨(by rw [hR]; exact Nat.le_of_ble_eq_true rfl), (by rw [hR]; exact Nat.le_of_ble_eq_true rfl)⟩) rfl (Nat.le_of_ble_eq_true rfl) ⟨(by rw [hR]; exact Nat.le_of_ble_eq_true rfl), (by rw [hR]; exact Nat.le_of_ble_eq_true rfl)⟩ (fun z24 M23 => ?_)
                    refine xv_iload_n rfl rfl hY dX12_looked_66 rfl ?_
                    refine xv_icmp_gt (t := 88) hY dX12_looked_67 (by decide) rfl ?_ ?_
                    · exact xv_mk (L' := [some (xr a0), some (xi a1), some (xi a2), some (xi x1.1), some (xi x1.2.1), some (xi x1.2.2.1), none]) [true, true, true, true, true, true, false] rfl (hj20 M23)
                    · refine xv_goto (pc' := 84) hY dX12_looked_70 (by decide) ?_
                      exact xv_mk (L' := [some (xr a0), some (xi a1), some (xi a2), some (xi x1.1), some (xi x1.2.1), some (xi x1.2.2.1), none]) [true, true, true, true, true, true, false] rfl (hj18 M23)
        · refine xv_goto (pc' := 119) hY dX12_looked_46 (by decide) ?_
          exact xv_mk (L' := [some (xr a0), some (xi a1), some (xi a2), some (xi x1.1), some (xi x1.2.1), some (xi x1.2.2.1), none]) [true, true, true, true, true, true, false] rfl (hj8 (x1.1, x1.2.1, M9))
      · refine xv_goto (pc' := 119) hY dX12_looked_28 (by decide) ?_
        exact xv_mk (L' := [some (xr a0), some (xi a1), some (xi a2), some (xi x1.1), some (xi x1.2.1), some (xi x1.2.2.1), none]) [true, true, true, true, true, true, false] rfl (hj8 (x1.1, x1.2.1, M5))
set_option maxHeartbeats 4000000 in
set_option maxRecDepth 100000 in
theorem S_X12_way (l : Launch) (a0 : Nat) (a1 : Int) (a2 : Int) (M : xv_M) (q : Int × xv_M) (h : D_X12_way a0 a1 a2 M = some q) : xv_Met l yX12_way wsX12_way rm_X12_way 0 0 false [xr a0, xi a1, xi a2] M (xv_qI false q) := by
  refine xv_enter (cc := cX12_way) (nL := 8) (ret := (some .int)) rfl (by decide +kernel) (Nat.le_of_ble_eq_true rfl) h ?_
  intro Y hY0 hl hR hnL hfl hret hnm0
  have hY : xv_ok Y cX12_way wsX12_way RX12 := hY0
  have hin12 : ∀ w ∈ u_ws RX12 TX12 18, w ∈ wsX12_way := fun _ h => List.mem_cons_of_mem _ (List.mem_append_right _ h)
  unfold D_X12_way
  refine xv_mk (L' := [some (xr a0), some (xi a1), some (xi a2), none, none, none, none, none]) [true, true, true, true, true, true, true, true] rfl ?_
  refine xv_aload_n rfl rfl hY dX12_way_0 rfl ?_
  refine xv_callVV (ci := 12) (y := yX12_marks) (ws := wsX12_marks) (rm := rm_X12_marks) (mc := 0) (ms := 0) (n := 0) (av := []) hY dX12_way_1 rfl rfl rfl (by decide) (fun q hq => by rw [hfl]; exact S_X12_marks Y.1.2.1 a0 M q hq) (cwV 0 hY.2.2.2.2.1 gX12_way_X12_marks rfl rfl rfl (by decide +kernel) ⟨(by rw [hR]; exact Nat.le_of_ble_eq_true rfl), (by rw [hR]; exact Nat.le_of_ble_eq_true rfl)⟩) rfl (Nat.le_of_ble_eq_true rfl) ⟨(by rw [hR]; exact Nat.le_of_ble_eq_true rfl), (by rw [hR]; exact Nat.le_of_ble_eq_true rfl)⟩ (fun _ M1 => ?_)
  refine xv_iconst hY dX12_way_4 rfl ?_
  refine xv_istore_n (L' := [some (xr a0), some (xi a1), some (xi a2), some (xi (0 : Int)), none, none, none, none]) hY dX12_way_5 rfl rfl (by rw [hnL]; decide) rfl rfl ?_
  refine xv_sipush (by decide) hY dX12_way_6 rfl ?_
  refine xv_istore (L' := [some (xr a0), some (xi a1), some (xi a2), some (xi (0 : Int)), some (xi (1000 : Int)), none, none, none]) hY dX12_way_9 rfl (by rw [hnL]; decide) rfl rfl ?_
  refine xv_sipush (by decide) hY dX12_way_11 rfl ?_
  refine xv_istore (L' := [some (xr a0), some (xi a1), some (xi a2), some (xi (0 : Int)), some (xi (1000 : Int)), some (xi (500 : Int)), none, none]) hY dX12_way_14 rfl (by rw [hnL]; decide) rfl rfl ?_
  refine xv_iconst hY dX12_way_16 rfl ?_
  refine xv_istore (L' := [some (xr a0), some (xi a1), some (xi a2), some (xi (0 : Int)), some (xi (1000 : Int)), some (xi (500 : Int)), some (xi (0 : Int)), none]) hY dX12_way_17 rfl (by rw [hnL]; decide) rfl rfl ?_
  refine xv_iconst hY dX12_way_19 rfl ?_
  refine xv_istore (L' := [some (xr a0), some (xi a1), some (xi a2), some (xi (0 : Int)), some (xi (1000 : Int)), some (xi (500 : Int)), some (xi (0 : Int)), some (xi (0 : Int))]) hY dX12_way_20 rfl (by rw [hnL]; decide) rfl rfl ?_
  refine xv_mk (L' := [some (xr a0), some (xi a1), some (xi a2), some (xi (0 : Int)), some (xi (1000 : Int)), some (xi (500 : Int)), some (xi (0 : Int)), some (xi (0 : Int))]) [true, true, true, true, true, true, true, true] rfl ?_
  refine xv_loop (σ := Int × Int × Int × Int × Int × xv_M) (fun x2 => [some (xr a0), some (xi a1), some (xi a2), some (xi x2.1), some (xi x2.2.1), some (xi x2.2.2.1), some (xi x2.2.2.2.1), some (xi x2.2.2.2.2.1)]) (fun x2 => x2.2.2.2.2.2) (fun f3 hf3 x2 => ?_) xv_fuel ((0 : Int), (1000 : Int), (500 : Int), (0 : Int), (0 : Int), M1)
  refine xv_iload_n rfl rfl hY dX12_way_22 rfl ?_
  refine xv_iload rfl hY dX12_way_23 rfl ?_
  refine xv_join (α := Unit) 107 (fun x4 => [none, none, some (xi a2), none, none, none, some (xi x2.2.2.2.1), some (xi x2.2.2.2.2.1)]) (fun x4 => []) (fun x4 => x2.2.2.2.2.2) (fun x4 => ?_) (fun j5 hj5 => ?_)
  · refine xv_iload_n rfl rfl hY dX12_way_107 rfl ?_
    refine xv_iconst hY dX12_way_108 rfl ?_
    refine xv_icmp_ne (t := 117) hY dX12_way_109 (by decide) rfl ?_ ?_
    · refine xv_iload rfl hY dX12_way_117 rfl ?_
      exact xv_ireti hY hfl dX12_way_119 hret (Nat.le_of_ble_eq_true rfl) (Nat.le_of_ble_eq_true rfl)
    · refine xv_iload rfl hY dX12_way_112 rfl ?_
      refine xv_goto (pc' := 119) hY dX12_way_114 (by decide) ?_
      exact xv_ireti hY hfl dX12_way_119 hret (Nat.le_of_ble_eq_true rfl) (Nat.le_of_ble_eq_true rfl)
  · refine xv_icmp_gt (t := 107) hY dX12_way_25 (by decide) rfl ?_ ?_
    · exact xv_mk (L' := [none, none, some (xi a2), none, none, none, some (xi x2.2.2.2.1), some (xi x2.2.2.2.2.1)]) [false, false, true, false, false, false, true, true] rfl (hj5 ())
    · refine xv_aload_n rfl rfl hY dX12_way_28 rfl ?_
      refine xv_getP (ci := 12) (j := 15) hY dX12_way_29 rfl rfl rfl (by decide) hin12 (by decide) rfl (List.mem_of_getElem? (i := 1) rfl) (fun v6 => ?_)
      refine xv_iload rfl hY dX12_way_32 rfl ?_
      refine xv_zald hY dX12_way_34 rfl (fun v7 => ?_)
      refine xv_if_eq (t := 107) hY dX12_way_35 (by decide) rfl ?_ ?_
      · exact xv_mk (L' := [none, none, some (xi a2), none, none, none, some (xi x2.2.2.2.1), some (xi x2.2.2.2.2.1)]) [false, false, true, false, false, false, true, true] rfl (hj5 ())
      · refine xv_iinc (L' := [some (xr a0), some (xi a1), some (xi a2), some (xi x2.1), some (xi x2.2.1), some (xi x2.2.2.1), some (xi (x2.2.2.2.1 + 1)), some (xi x2.2.2.2.2.1)]) hY dX12_way_38 rfl (by rw [hnL]; decide) rfl rfl rfl ?_
        refine xv_iload rfl hY dX12_way_41 rfl ?_
        refine xv_iload_n rfl rfl hY dX12_way_43 rfl ?_
        refine xv_iconst hY dX12_way_44 rfl ?_
        refine xv_join (α := Int × Int × xv_M) 59 (fun x8 => [some (xr a0), some (xi a1), some (xi a2), some (xi x2.1), some (xi x2.2.1), some (xi x2.2.2.1), some (xi (x2.2.2.2.1 + 1)), none]) (fun x8 => [xi x8.2.1, xi x8.1]) (fun x8 => x8.2.2) (fun x8 => ?_) (fun j9 hj9 => ?_)
        · refine xv_iadd hY dX12_way_59 rfl ?_
          refine xv_istore (L' := [some (xr a0), some (xi a1), some (xi a2), some (xi x2.1), some (xi x2.2.1), some (xi x2.2.2.1), some (xi (x2.2.2.2.1 + 1)), some (xi (x8.1 + x8.2.1))]) hY dX12_way_60 rfl (by rw [hnL]; decide) rfl rfl ?_
          refine xv_iload_n rfl rfl hY dX12_way_62 rfl ?_
          refine xv_iload rfl hY dX12_way_63 rfl ?_
          refine xv_join (α := Int × Int) 96 (fun x10 => [some (xr a0), some (xi a1), some (xi a2), some (xi x10.1), some (xi x10.2), none, some (xi (x2.2.2.2.1 + 1)), some (xi (x8.1 + x8.2.1))]) (fun x10 => []) (fun x10 => x8.2.2) (fun x10 => ?_) (fun j11 hj11 => ?_)
          · refine xv_iload_n rfl rfl hY dX12_way_96 rfl ?_
            refine xv_iload rfl hY dX12_way_97 rfl ?_
            refine xv_iadd hY dX12_way_99 rfl ?_
            refine xv_iconst hY dX12_way_100 rfl ?_
            refine xv_idiv hY dX12_way_101 rfl ?_
            refine xv_istore (L' := [some (xr a0), some (xi a1), some (xi a2), some (xi x10.1), some (xi x10.2), some (xi ((Int32.ofInt (x10.1 + x10.2) / Int32.ofInt (2 : Int)).toInt)), some (xi (x2.2.2.2.1 + 1)), some (xi (x8.1 + x8.2.1))]) hY dX12_way_102 rfl (by rw [hnL]; decide) rfl rfl ?_
            refine xv_goto (pc' := 22) hY dX12_way_104 (by decide) ?_
            exact xv_mk (L' := [some (xr a0), some (xi a1), some (xi a2), some (xi x10.1), some (xi x10.2), some (xi ((Int32.ofInt (x10.1 + x10.2) / Int32.ofInt (2 : Int)).toInt)), some (xi (x2.2.2.2.1 + 1)), some (xi (x8.1 + x8.2.1))]) [true, true, true, true, true, true, true, true] rfl (hf3 (x10.1, x10.2, ((Int32.ofInt (x10.1 + x10.2) / Int32.ofInt (2 : Int)).toInt), (x2.2.2.2.1 + 1), (x8.1 + x8.2.1), x8.2.2))
          · refine xv_icmp_ge (t := 77) hY dX12_way_65 (by decide) rfl ?_ ?_
            · refine xv_iload_n rfl rfl hY dX12_way_77 rfl ?_
              refine xv_iload rfl hY dX12_way_78 rfl ?_
              refine xv_icmp_le (t := 91) hY dX12_way_80 (by decide) rfl ?_ ?_
              · refine xv_iload_n rfl rfl hY dX12_way_91 rfl ?_
                refine xv_iconst hY dX12_way_92 rfl ?_
                refine xv_isub hY dX12_way_93 rfl ?_
                refine xv_istore (L' := [some (xr a0), some (xi a1), some (xi a2), some (xi x2.1), some (xi (x2.1 - (1 : Int))), some (xi x2.2.2.1), some (xi (x2.2.2.2.1 + 1)), some (xi (x8.1 + x8.2.1))]) hY dX12_way_94 rfl (by rw [hnL]; decide) rfl rfl ?_
                exact xv_mk (L' := [some (xr a0), some (xi a1), some (xi a2), some (xi x2.1), some (xi (x2.1 - (1 : Int))), none, some (xi (x2.2.2.2.1 + 1)), some (xi (x8.1 + x8.2.1))]) [true, true, true, true, true, false, true, true] rfl (hj11 (x2.1, (x2.1 - (1 : Int))))
              · refine xv_iload rfl hY dX12_way_83 rfl ?_
                refine xv_iconst hY dX12_way_85 rfl ?_
                refine xv_iadd hY dX12_way_86 rfl ?_
                refine xv_istore_n (L' := [some (xr a0), some (xi a1), some (xi a2), some (xi (x2.2.2.1 + (1 : Int))), some (xi x2.2.1), some (xi x2.2.2.1), some (xi (x2.2.2.2.1 + 1)), some (xi (x8.1 + x8.2.1))]) hY dX12_way_87 rfl rfl (by rw [hnL]; decide) rfl rfl ?_
                refine xv_goto (pc' := 96) hY dX12_way_88 (by decide) ?_
                exact xv_mk (L' := [some (xr a0), some (xi a1), some (xi a2), some (xi (x2.2.2.1 + (1 : Int))), some (xi x2.2.1), none, some (xi (x2.2.2.2.1 + 1)), some (xi (x8.1 + x8.2.1))]) [true, true, true, true, true, false, true, true] rfl (hj11 ((x2.2.2.1 + (1 : Int)), x2.2.1))
            · refine xv_iload rfl hY dX12_way_68 rfl ?_
              refine xv_iconst hY dX12_way_70 rfl ?_
              refine xv_isub hY dX12_way_71 rfl ?_
              refine xv_istore (L' := [some (xr a0), some (xi a1), some (xi a2), some (xi x2.1), some (xi (x2.2.2.1 - (1 : Int))), some (xi x2.2.2.1), some (xi (x2.2.2.2.1 + 1)), some (xi (x8.1 + x8.2.1))]) hY dX12_way_72 rfl (by rw [hnL]; decide) rfl rfl ?_
              refine xv_goto (pc' := 96) hY dX12_way_74 (by decide) ?_
              exact xv_mk (L' := [some (xr a0), some (xi a1), some (xi a2), some (xi x2.1), some (xi (x2.2.2.1 - (1 : Int))), none, some (xi (x2.2.2.2.1 + 1)), some (xi (x8.1 + x8.2.1))]) [true, true, true, true, true, false, true, true] rfl (hj11 (x2.1, (x2.2.2.1 - (1 : Int))))
        · refine xv_icmp_ne (t := 58) hY dX12_way_45 (by decide) rfl ?_ ?_
          · refine xv_iconst hY dX12_way_58 rfl ?_
            exact xv_mk (L' := [some (xr a0), some (xi a1), some (xi a2), some (xi x2.1), some (xi x2.2.1), some (xi x2.2.2.1), some (xi (x2.2.2.2.1 + 1)), none]) [true, true, true, true, true, true, true, false] rfl (hj9 (x2.2.2.2.2.1, (0 : Int), x2.2.2.2.2.2))
          · refine xv_aload_n rfl rfl hY dX12_way_48 rfl ?_
            refine xv_iload rfl hY dX12_way_49 rfl ?_
            refine xv_iload_n rfl rfl hY dX12_way_51 rfl ?_
            refine xv_callVI (ci := 12) (y := yX12_looked) (ws := wsX12_looked) (rm := rm_X12_looked) (mc := 0) (ms := 0) (n := 2) (av := [xi x2.2.2.1, xi a1]) hY dX12_way_52 rfl rfl rfl (by decide) (fun q hq => by rw [hfl]; exact S_X12_looked Y.1.2.1 a0 x2.2.2.1 a1 x2.2.2.2.2.2 q hq) (cwV 2 hY.2.2.2.2.1 gX12_way_X12_looked rfl rfl rfl (by decide +kernel) ⟨(by rw [hR]; exact Nat.le_of_ble_eq_true rfl), (by rw [hR]; exact Nat.le_of_ble_eq_true rfl)⟩) rfl (Nat.le_of_ble_eq_true rfl) ⟨(by rw [hR]; exact Nat.le_of_ble_eq_true rfl), (by rw [hR]; exact Nat.le_of_ble_eq_true rfl)⟩ (fun z13 M12 => ?_)
            refine xv_goto (pc' := 59) hY dX12_way_55 (by decide) ?_
            exact xv_mk (L' := [some (xr a0), some (xi a1), some (xi a2), some (xi x2.1), some (xi x2.2.1), some (xi x2.2.2.1), some (xi (x2.2.2.2.1 + 1)), none]) [true, true, true, true, true, true, true, false] rfl (hj9 (x2.2.2.2.2.1, z13, M12))
set_option maxHeartbeats 4000000 in
set_option maxRecDepth 100000 in
theorem S_X12_guests (l : Launch) (a0 : Nat) (a1 : Int) (M : xv_M) (q : Int × xv_M) (h : D_X12_guests a0 a1 M = some q) : xv_Met l yX12_guests wsX12_guests rm_X12_guests 0 0 false [xr a0, xi a1] M (xv_qI false q) := by
  refine xv_enter (cc := cX12_guests) (nL := 4) (ret := (some .int)) rfl (by decide +kernel) (Nat.le_of_ble_eq_true rfl) h ?_
  intro Y hY0 hl hR hnL hfl hret hnm0
  have hY : xv_ok Y cX12_guests wsX12_guests RX12 := hY0
  have hin12 : ∀ w ∈ u_ws RX12 TX12 18, w ∈ wsX12_guests := fun _ h => List.mem_cons_of_mem _ (List.mem_append_right _ h)
  unfold D_X12_guests
  refine xv_mk (L' := [some (xr a0), some (xi a1), none, none]) [true, true, true, true] rfl ?_
  refine xv_iconst hY dX12_guests_0 rfl ?_
  refine xv_istore_n (L' := [some (xr a0), some (xi a1), some (xi (0 : Int)), none]) hY dX12_guests_1 rfl rfl (by rw [hnL]; decide) rfl rfl ?_
  refine xv_iconst hY dX12_guests_2 rfl ?_
  refine xv_istore_n (L' := [some (xr a0), some (xi a1), some (xi (0 : Int)), some (xi (0 : Int))]) hY dX12_guests_3 rfl rfl (by rw [hnL]; decide) rfl rfl ?_
  refine xv_mk (L' := [some (xr a0), some (xi a1), some (xi (0 : Int)), some (xi (0 : Int))]) [true, true, true, true] rfl ?_
  refine xv_loop (σ := Int × Int × xv_M) (fun x1 => [some (xr a0), some (xi a1), some (xi x1.1), some (xi x1.2.1)]) (fun x1 => x1.2.2) (fun f2 hf2 x1 => ?_) xv_fuel ((0 : Int), (0 : Int), M)
  refine xv_iload_n rfl rfl hY dX12_guests_4 rfl ?_
  refine xv_aload_n rfl rfl hY dX12_guests_5 rfl ?_
  refine xv_getP (ci := 12) (j := 0) hY dX12_guests_6 rfl rfl rfl (by decide) hin12 (by decide) rfl (List.mem_of_getElem? (i := 1) rfl) (fun v3 => ?_)
  refine xv_iconst hY dX12_guests_9 rfl ?_
  refine xv_iald hY dX12_guests_10 rfl (fun v4 => ?_)
  refine xv_icmp_ge (t := 37) hY dX12_guests_11 (by decide) rfl ?_ ?_
  · refine xv_iload_n rfl rfl hY dX12_guests_37 rfl ?_
    exact xv_ireti hY hfl dX12_guests_38 hret (Nat.le_of_ble_eq_true rfl) (Nat.le_of_ble_eq_true rfl)
  · refine xv_iload_n rfl rfl hY dX12_guests_14 rfl ?_
    refine xv_aload_n rfl rfl hY dX12_guests_15 rfl ?_
    refine xv_iload_n rfl rfl hY dX12_guests_16 rfl ?_
    refine xv_iload_n rfl rfl hY dX12_guests_17 rfl ?_
    refine xv_callVI (ci := 12) (y := yX12_isInside) (ws := wsX12_isInside) (rm := rm_X12_isInside) (mc := 0) (ms := 0) (n := 2) (av := [xi x1.2.1, xi a1]) hY dX12_guests_18 rfl rfl rfl (by decide) (fun q hq => by rw [hfl]; exact S_X12_isInside Y.1.2.1 a0 x1.2.1 a1 x1.2.2 q hq) (cwV 2 hY.2.2.2.2.1 gX12_guests_X12_isInside rfl rfl rfl (by decide +kernel) ⟨(by rw [hR]; exact Nat.le_of_ble_eq_true rfl), (by rw [hR]; exact Nat.le_of_ble_eq_true rfl)⟩) rfl (Nat.le_of_ble_eq_true rfl) ⟨(by rw [hR]; exact Nat.le_of_ble_eq_true rfl), (by rw [hR]; exact Nat.le_of_ble_eq_true rfl)⟩ (fun z6 M5 => ?_)
    refine xv_join (α := Int × Int) 29 (fun x7 => [some (xr a0), some (xi a1), none, some (xi x1.2.1)]) (fun x7 => [xi x7.2, xi x7.1]) (fun x7 => M5) (fun x7 => ?_) (fun j8 hj8 => ?_)
    · refine xv_iadd hY dX12_guests_29 rfl ?_
      refine xv_istore_n (L' := [some (xr a0), some (xi a1), some (xi (x7.1 + x7.2)), some (xi x1.2.1)]) hY dX12_guests_30 rfl rfl (by rw [hnL]; decide) rfl rfl ?_
      refine xv_iinc (L' := [some (xr a0), some (xi a1), some (xi (x7.1 + x7.2)), some (xi (x1.2.1 + 1))]) hY dX12_guests_31 rfl (by rw [hnL]; decide) rfl rfl rfl ?_
      refine xv_goto (pc' := 4) hY dX12_guests_34 (by decide) ?_
      exact xv_mk (L' := [some (xr a0), some (xi a1), some (xi (x7.1 + x7.2)), some (xi (x1.2.1 + 1))]) [true, true, true, true] rfl (hf2 ((x7.1 + x7.2), (x1.2.1 + 1), M5))
    · refine xv_if_eq (t := 28) hY dX12_guests_21 (by decide) rfl ?_ ?_
      · refine xv_iconst hY dX12_guests_28 rfl ?_
        exact xv_mk (L' := [some (xr a0), some (xi a1), none, some (xi x1.2.1)]) [true, true, false, true] rfl (hj8 (x1.1, (0 : Int)))
      · refine xv_iconst hY dX12_guests_24 rfl ?_
        refine xv_goto (pc' := 29) hY dX12_guests_25 (by decide) ?_
        exact xv_mk (L' := [some (xr a0), some (xi a1), none, some (xi x1.2.1)]) [true, true, false, true] rfl (hj8 (x1.1, (1 : Int)))
set_option maxHeartbeats 4000000 in
set_option maxRecDepth 100000 in
theorem S_X12_span (l : Launch) (a0 : Nat) (a1 : Int) (a2 : Int) (M : xv_M) (q : Int × xv_M) (h : D_X12_span a0 a1 a2 M = some q) : xv_Met l yX12_span wsX12_span rm_X12_span 0 0 false [xr a0, xi a1, xi a2] M (xv_qI false q) := by
  refine xv_enter (cc := cX12_span) (nL := 3) (ret := (some .int)) rfl (by decide +kernel) (Nat.le_of_ble_eq_true rfl) h ?_
  intro Y hY0 hl hR hnL hfl hret hnm0
  have hY : xv_ok Y cX12_span wsX12_span RX12 := hY0
  have hin12 : ∀ w ∈ u_ws RX12 TX12 18, w ∈ wsX12_span := fun _ h => List.mem_cons_of_mem _ (List.mem_append_right _ h)
  unfold D_X12_span
  refine xv_mk (L' := [some (xr a0), some (xi a1), some (xi a2)]) [true, true, true] rfl ?_
  refine xv_aload_n rfl rfl hY dX12_span_0 rfl ?_
  refine xv_iload_n rfl rfl hY dX12_span_1 rfl ?_
  refine xv_callVI (ci := 12) (y := yX12_noSpan) (ws := wsX12_noSpan) (rm := rm_X12_noSpan) (mc := 0) (ms := 0) (n := 1) (av := [xi a1]) hY dX12_span_2 rfl rfl rfl (by decide) (fun q hq => by rw [hfl]; exact S_X12_noSpan Y.1.2.1 a0 a1 M q hq) (cwV 1 hY.2.2.2.2.1 gX12_span_X12_noSpan rfl rfl rfl (by decide +kernel) ⟨(by rw [hR]; exact Nat.le_of_ble_eq_true rfl), (by rw [hR]; exact Nat.le_of_ble_eq_true rfl)⟩) rfl (Nat.le_of_ble_eq_true rfl) ⟨(by rw [hR]; exact Nat.le_of_ble_eq_true rfl), (by rw [hR]; exact Nat.le_of_ble_eq_true rfl)⟩ (fun z2 M1 => ?_)
  refine xv_if_eq (t := 10) hY dX12_span_5 (by decide) rfl ?_ ?_
  · refine xv_iload_n rfl rfl hY dX12_span_10 rfl ?_
    refine xv_byg (fun hz => ?_)
    refine xv_byif (fun h0 => ?_) (fun h0 => ?_)
    · refine xv_swIn (off := 49) (t := 60) hY dX12_span_11 (xv_inb_in hz) (by omega) (by omega) (by rw [h0]; rfl) (by decide) ?_
      refine xv_aload_n rfl rfl hY dX12_span_60 rfl ?_
      refine xv_iload_n rfl rfl hY dX12_span_61 rfl ?_
      refine xv_iload_n rfl rfl hY dX12_span_62 rfl ?_
      refine xv_callVI (ci := 12) (y := yX12_of) (ws := wsX12_of) (rm := rm_X12_of) (mc := 0) (ms := 0) (n := 2) (av := [xi a1, xi a2]) hY dX12_span_63 rfl rfl rfl (by decide) (fun q hq => by rw [hfl]; exact S_X12_of Y.1.2.1 a0 a1 a2 M1 q hq) (cwV 2 hY.2.2.2.2.1 gX12_span_X12_of rfl rfl rfl (by decide +kernel) ⟨(by rw [hR]; exact Nat.le_of_ble_eq_true rfl), (by rw [hR]; exact Nat.le_of_ble_eq_true rfl)⟩) rfl (Nat.le_of_ble_eq_true rfl) ⟨(by rw [hR]; exact Nat.le_of_ble_eq_true rfl), (by rw [hR]; exact Nat.le_of_ble_eq_true rfl)⟩ (fun z20 M19 => ?_)
      exact xv_ireti hY hfl dX12_span_66 hret (Nat.le_of_ble_eq_true rfl) (Nat.le_of_ble_eq_true rfl)
    · refine xv_byif (fun h1 => ?_) (fun h1 => ?_)
      · refine xv_swIn (off := 49) (t := 60) hY dX12_span_11 (xv_inb_in hz) (by omega) (by omega) (by rw [h1]; rfl) (by decide) ?_
        refine xv_aload_n rfl rfl hY dX12_span_60 rfl ?_
        refine xv_iload_n rfl rfl hY dX12_span_61 rfl ?_
        refine xv_iload_n rfl rfl hY dX12_span_62 rfl ?_
        refine xv_callVI (ci := 12) (y := yX12_of) (ws := wsX12_of) (rm := rm_X12_of) (mc := 0) (ms := 0) (n := 2) (av := [xi a1, xi a2]) hY dX12_span_63 rfl rfl rfl (by decide) (fun q hq => by rw [hfl]; exact S_X12_of Y.1.2.1 a0 a1 a2 M1 q hq) (cwV 2 hY.2.2.2.2.1 gX12_span_X12_of rfl rfl rfl (by decide +kernel) ⟨(by rw [hR]; exact Nat.le_of_ble_eq_true rfl), (by rw [hR]; exact Nat.le_of_ble_eq_true rfl)⟩) rfl (Nat.le_of_ble_eq_true rfl) ⟨(by rw [hR]; exact Nat.le_of_ble_eq_true rfl), (by rw [hR]; exact Nat.le_of_ble_eq_true rfl)⟩ (fun z18 M17 => ?_)
        exact xv_ireti hY hfl dX12_span_66 hret (Nat.le_of_ble_eq_true rfl) (Nat.le_of_ble_eq_true rfl)
      · refine xv_byif (fun h2 => ?_) (fun h2 => ?_)
        · refine xv_swIn (off := 49) (t := 60) hY dX12_span_11 (xv_inb_in hz) (by omega) (by omega) (by rw [h2]; rfl) (by decide) ?_
          refine xv_aload_n rfl rfl hY dX12_span_60 rfl ?_
          refine xv_iload_n rfl rfl hY dX12_span_61 rfl ?_
          refine xv_iload_n rfl rfl hY dX12_span_62 rfl ?_
          refine xv_callVI (ci := 12) (y := yX12_of) (ws := wsX12_of) (rm := rm_X12_of) (mc := 0) (ms := 0) (n := 2) (av := [xi a1, xi a2]) hY dX12_span_63 rfl rfl rfl (by decide) (fun q hq => by rw [hfl]; exact S_X12_of Y.1.2.1 a0 a1 a2 M1 q hq) (cwV 2 hY.2.2.2.2.1 gX12_span_X12_of rfl rfl rfl (by decide +kernel) ⟨(by rw [hR]; exact Nat.le_of_ble_eq_true rfl), (by rw [hR]; exact Nat.le_of_ble_eq_true rfl)⟩) rfl (Nat.le_of_ble_eq_true rfl) ⟨(by rw [hR]; exact Nat.le_of_ble_eq_true rfl), (by rw [hR]; exact Nat.le_of_ble_eq_true rfl)⟩ (fun z16 M15 => ?_)
          exact xv_ireti hY hfl dX12_span_66 hret (Nat.le_of_ble_eq_true rfl) (Nat.le_of_ble_eq_true rfl)
        · refine xv_byif (fun h3 => ?_) (fun h3 => ?_)
          · refine xv_swIn (off := 49) (t := 60) hY dX12_span_11 (xv_inb_in hz) (by omega) (by omega) (by rw [h3]; rfl) (by decide) ?_
            refine xv_aload_n rfl rfl hY dX12_span_60 rfl ?_
            refine xv_iload_n rfl rfl hY dX12_span_61 rfl ?_
            refine xv_iload_n rfl rfl hY dX12_span_62 rfl ?_
            refine xv_callVI (ci := 12) (y := yX12_of) (ws := wsX12_of) (rm := rm_X12_of) (mc := 0) (ms := 0) (n := 2) (av := [xi a1, xi a2]) hY dX12_span_63 rfl rfl rfl (by decide) (fun q hq => by rw [hfl]; exact S_X12_of Y.1.2.1 a0 a1 a2 M1 q hq) (cwV 2 hY.2.2.2.2.1 gX12_span_X12_of rfl rfl rfl (by decide +kernel) ⟨(by rw [hR]; exact Nat.le_of_ble_eq_true rfl), (by rw [hR]; exact Nat.le_of_ble_eq_true rfl)⟩) rfl (Nat.le_of_ble_eq_true rfl) ⟨(by rw [hR]; exact Nat.le_of_ble_eq_true rfl), (by rw [hR]; exact Nat.le_of_ble_eq_true rfl)⟩ (fun z14 M13 => ?_)
            exact xv_ireti hY hfl dX12_span_66 hret (Nat.le_of_ble_eq_true rfl) (Nat.le_of_ble_eq_true rfl)
          · refine xv_byif (fun h4 => ?_) (fun h4 => ?_)
            · refine xv_swIn (off := 56) (t := 67) hY dX12_span_11 (xv_inb_in hz) (by omega) (by omega) (by rw [h4]; rfl) (by decide) ?_
              refine xv_aload_n rfl rfl hY dX12_span_67 rfl ?_
              refine xv_iload_n rfl rfl hY dX12_span_68 rfl ?_
              refine xv_iconst hY dX12_span_69 rfl ?_
              refine xv_callVV (ci := 12) (y := yX12_finds) (ws := wsX12_finds) (rm := rm_X12_finds) (mc := 0) (ms := 0) (n := 2) (av := [xi a1, xi (0 : Int)]) hY dX12_span_70 rfl rfl rfl (by decide) (fun q hq => by rw [hfl]; exact S_X12_finds Y.1.2.1 a0 a1 (0 : Int) M1 q hq) (cwV 2 hY.2.2.2.2.1 gX12_span_X12_finds rfl rfl rfl (by decide +kernel) ⟨(by rw [hR]; exact Nat.le_of_ble_eq_true rfl), (by rw [hR]; exact Nat.le_of_ble_eq_true rfl)⟩) rfl (Nat.le_of_ble_eq_true rfl) ⟨(by rw [hR]; exact Nat.le_of_ble_eq_true rfl), (by rw [hR]; exact Nat.le_of_ble_eq_true rfl)⟩ (fun _ M11 => ?_)
              refine xv_aload_n rfl rfl hY dX12_span_73 rfl ?_
              refine xv_getI (ci := 12) (j := 13) hY dX12_span_74 rfl rfl rfl (by decide) hin12 (by decide) rfl (List.mem_of_getElem? (i := 1) rfl) (fun v12 => ?_)
              exact xv_ireti hY hfl dX12_span_77 hret (Nat.le_of_ble_eq_true rfl) (Nat.le_of_ble_eq_true rfl)
            · refine xv_byif (fun h5 => ?_) (fun h5 => ?_)
              · refine xv_swIn (off := 67) (t := 78) hY dX12_span_11 (xv_inb_in hz) (by omega) (by omega) (by rw [h5]; rfl) (by decide) ?_
                refine xv_aload_n rfl rfl hY dX12_span_78 rfl ?_
                refine xv_iload_n rfl rfl hY dX12_span_79 rfl ?_
                refine xv_iconst hY dX12_span_80 rfl ?_
                refine xv_callVV (ci := 12) (y := yX12_finds) (ws := wsX12_finds) (rm := rm_X12_finds) (mc := 0) (ms := 0) (n := 2) (av := [xi a1, xi (0 : Int)]) hY dX12_span_81 rfl rfl rfl (by decide) (fun q hq => by rw [hfl]; exact S_X12_finds Y.1.2.1 a0 a1 (0 : Int) M1 q hq) (cwV 2 hY.2.2.2.2.1 gX12_span_X12_finds rfl rfl rfl (by decide +kernel) ⟨(by rw [hR]; exact Nat.le_of_ble_eq_true rfl), (by rw [hR]; exact Nat.le_of_ble_eq_true rfl)⟩) rfl (Nat.le_of_ble_eq_true rfl) ⟨(by rw [hR]; exact Nat.le_of_ble_eq_true rfl), (by rw [hR]; exact Nat.le_of_ble_eq_true rfl)⟩ (fun _ M9 => ?_)
                refine xv_aload_n rfl rfl hY dX12_span_84 rfl ?_
                refine xv_getI (ci := 12) (j := 14) hY dX12_span_85 rfl rfl rfl (by decide) hin12 (by decide) rfl (List.mem_of_getElem? (i := 2) rfl) (fun v10 => ?_)
                exact xv_ireti hY hfl dX12_span_88 hret (Nat.le_of_ble_eq_true rfl) (Nat.le_of_ble_eq_true rfl)
              · refine xv_byif (fun h6 => ?_) (fun h6 => ?_)
                · refine xv_swIn (off := 78) (t := 89) hY dX12_span_11 (xv_inb_in hz) (by omega) (by omega) (by rw [h6]; rfl) (by decide) ?_
                  refine xv_aload_n rfl rfl hY dX12_span_89 rfl ?_
                  refine xv_iload_n rfl rfl hY dX12_span_90 rfl ?_
                  refine xv_callVI (ci := 12) (y := yX12_guests) (ws := wsX12_guests) (rm := rm_X12_guests) (mc := 0) (ms := 0) (n := 1) (av := [xi a1]) hY dX12_span_91 rfl rfl rfl (by decide) (fun q hq => by rw [hfl]; exact S_X12_guests Y.1.2.1 a0 a1 M1 q hq) (cwV 1 hY.2.2.2.2.1 gX12_span_X12_guests rfl rfl rfl (by decide +kernel) ⟨(by rw [hR]; exact Nat.le_of_ble_eq_true rfl), (by rw [hR]; exact Nat.le_of_ble_eq_true rfl)⟩) rfl (Nat.le_of_ble_eq_true rfl) ⟨(by rw [hR]; exact Nat.le_of_ble_eq_true rfl), (by rw [hR]; exact Nat.le_of_ble_eq_true rfl)⟩ (fun z8 M7 => ?_)
                  exact xv_ireti hY hfl dX12_span_94 hret (Nat.le_of_ble_eq_true rfl) (Nat.le_of_ble_eq_true rfl)
                · refine xv_byif (fun h7 => ?_) (fun h7 => ?_)
                  · refine xv_swIn (off := 84) (t := 95) hY dX12_span_11 (xv_inb_in hz) (by omega) (by omega) (by rw [h7]; rfl) (by decide) ?_
                    refine xv_aload_n rfl rfl hY dX12_span_95 rfl ?_
                    refine xv_iload_n rfl rfl hY dX12_span_96 rfl ?_
                    refine xv_iconst hY dX12_span_97 rfl ?_
                    refine xv_callVI (ci := 12) (y := yX12_of) (ws := wsX12_of) (rm := rm_X12_of) (mc := 0) (ms := 0) (n := 2) (av := [xi a1, xi (5 : Int)]) hY dX12_span_98 rfl rfl rfl (by decide) (fun q hq => by rw [hfl]; exact S_X12_of Y.1.2.1 a0 a1 (5 : Int) M1 q hq) (cwV 2 hY.2.2.2.2.1 gX12_span_X12_of rfl rfl rfl (by decide +kernel) ⟨(by rw [hR]; exact Nat.le_of_ble_eq_true rfl), (by rw [hR]; exact Nat.le_of_ble_eq_true rfl)⟩) rfl (Nat.le_of_ble_eq_true rfl) ⟨(by rw [hR]; exact Nat.le_of_ble_eq_true rfl), (by rw [hR]; exact Nat.le_of_ble_eq_true rfl)⟩ (fun z6 M5 => ?_)
                    exact xv_ireti hY hfl dX12_span_101 hret (Nat.le_of_ble_eq_true rfl) (Nat.le_of_ble_eq_true rfl)
                  · refine xv_byif (fun h8 => ?_) (fun h8 => ?_)
                    · refine xv_swIn (off := 91) (t := 102) hY dX12_span_11 (xv_inb_in hz) (by omega) (by omega) (by rw [h8]; rfl) (by decide) ?_
                      refine xv_aload_n rfl rfl hY dX12_span_102 rfl ?_
                      refine xv_iload_n rfl rfl hY dX12_span_103 rfl ?_
                      refine xv_bipush (by decide) hY dX12_span_104 rfl ?_
                      refine xv_callVI (ci := 12) (y := yX12_of) (ws := wsX12_of) (rm := rm_X12_of) (mc := 0) (ms := 0) (n := 2) (av := [xi a1, xi (6 : Int)]) hY dX12_span_106 rfl rfl rfl (by decide) (fun q hq => by rw [hfl]; exact S_X12_of Y.1.2.1 a0 a1 (6 : Int) M1 q hq) (cwV 2 hY.2.2.2.2.1 gX12_span_X12_of rfl rfl rfl (by decide +kernel) ⟨(by rw [hR]; exact Nat.le_of_ble_eq_true rfl), (by rw [hR]; exact Nat.le_of_ble_eq_true rfl)⟩) rfl (Nat.le_of_ble_eq_true rfl) ⟨(by rw [hR]; exact Nat.le_of_ble_eq_true rfl), (by rw [hR]; exact Nat.le_of_ble_eq_true rfl)⟩ (fun z4 M3 => ?_)
                      exact xv_ireti hY hfl dX12_span_109 hret (Nat.le_of_ble_eq_true rfl) (Nat.le_of_ble_eq_true rfl)
                    · refine xv_swOut hY dX12_span_11 (xv_inb_in hz) (by omega) (t := 110) (by decide) ?_
                      refine xv_bipush (by decide) hY dX12_span_110 rfl ?_
                      exact xv_ireti hY hfl dX12_span_112 hret (Nat.le_of_ble_eq_true rfl) (Nat.le_of_ble_eq_true rfl)
  · refine xv_iconst hY dX12_span_8 rfl ?_
    exact xv_ireti hY hfl dX12_span_9 hret (Nat.le_of_ble_eq_true rfl) (Nat.le_of_ble_eq_true rfl)
