/-! ## the cells as the constructors lay them -/
def xl_K0 : List (Nat × Nat) := [(11, 0), (2, 0), (6, 0), (5, 0), (14, 60), (14, 60), (14, 60), (14, 60), (14, 60), (14, 60), (9, 0), (14, 6), (14, 6), (15, 6), (14, 6), (14, 6), (14, 6), (14, 6), (18, 6), (14, 60), (14, 60), (14, 60), (14, 60), (14, 60), (14, 60), (3, 0), (14, 12), (14, 12), (14, 12), (14, 12), (0, 0), (15, 1001), (8, 0), (14, 60), (14, 60), (14, 1001), (14, 1001), (10, 0), (1, 0), (17, 4), (6, 0), (5, 0), (14, 60), (14, 60), (14, 60), (14, 60), (14, 60), (14, 60), (9, 0), (14, 6), (14, 6), (15, 6), (14, 6), (14, 6), (14, 6), (14, 6), (18, 6), (14, 60), (14, 60), (14, 60), (14, 60), (14, 60), (14, 60), (3, 0), (14, 12), (14, 12), (14, 12), (14, 12), (6, 0), (5, 0), (14, 60), (14, 60), (14, 60), (14, 60), (14, 60), (14, 60), (9, 0), (14, 6), (14, 6), (15, 6), (14, 6), (14, 6), (14, 6), (14, 6), (18, 6), (14, 60), (14, 60), (14, 60), (14, 60), (14, 60), (14, 60), (3, 0), (14, 12), (14, 12), (14, 12), (14, 12), (6, 0), (5, 0), (14, 60), (14, 60), (14, 60), (14, 60), (14, 60), (14, 60), (9, 0), (14, 6), (14, 6), (15, 6), (14, 6), (14, 6), (14, 6), (14, 6), (18, 6), (14, 60), (14, 60), (14, 60), (14, 60), (14, 60), (14, 60), (3, 0), (14, 12), (14, 12), (14, 12), (14, 12), (6, 0), (5, 0), (14, 60), (14, 60), (14, 60), (14, 60), (14, 60), (14, 60), (9, 0), (14, 6), (14, 6), (15, 6), (14, 6), (14, 6), (14, 6), (14, 6), (18, 6), (14, 60), (14, 60), (14, 60), (14, 60), (14, 60), (14, 60), (3, 0), (14, 12), (14, 12), (14, 12), (14, 12), (6, 0), (5, 0), (14, 60), (14, 60), (14, 60), (14, 60), (14, 60), (14, 60), (9, 0), (14, 6), (14, 6), (15, 6), (14, 6), (14, 6), (14, 6), (14, 6), (18, 6), (14, 60), (14, 60), (14, 60), (14, 60), (14, 60), (14, 60), (3, 0), (14, 12), (14, 12), (14, 12), (14, 12), (7, 0), (13, 60), (4, 0), (14, 12), (14, 12), (16, 12), (16, 12), (12, 0), (14, 870), (14, 3480), (14, 870), (13, 60), (16, 1001), (14, 1001)]
/-- the memory behind the two constructors, called by the law -/
def xl_A0 : xv_M := xv_new ([], fun _ _ => 0, fun _ _ => 0, fun _ _ => 0) (11, 0)
def xl_A1 : xv_M := ((D_X11_init 1 xl_A0).map (fun q => q.2)).getD xl_A0
def xl_A2 : xv_M := xv_new xl_A1 (12, 0)
def xl_A3 : xv_M := ((D_X12_init 188 xl_A2).map (fun q => q.2)).getD xl_A2
set_option maxRecDepth 100000 in
theorem xl_A1_some : (D_X11_init 1 xl_A0).isSome = true := by decide +kernel
set_option maxRecDepth 100000 in
theorem xl_A1_len : xl_A1.1.length = 187 := by decide +kernel
set_option maxRecDepth 100000 in
theorem xl_A3_some : (D_X12_init 188 xl_A2).isSome = true := by decide +kernel
set_option maxRecDepth 100000 in
theorem xl_A3_K : xl_A3.1 = xl_K0 := by decide +kernel
/-- the references: all but those of the history's row stay -/
def xl_P0 (r j : Nat) : Nat := xv_P xl_A3 r j
def xl_OK (M : xv_M) : Prop := M.1 = xl_K0 ∧ ∀ r j, r ≠ 40 → xv_P M r j = xl_P0 r j
theorem xl_k {M : xv_M} (h : xl_OK M) (r : Nat) {k : Nat × Nat} (hr : (if r = 0 then (99, 0) else xl_K0.getD (r - 1) (99, 0)) = k) : xv_kd M r = k := by
  unfold xv_kd
  rw [h.1]
  exact hr
theorem xl_p {M : xv_M} (h : xl_OK M) (r j : Nat) {v : Nat} (h1 : r ≠ 40) (h2 : xl_P0 r j = v) : xv_P M r j = v := (h.2 r j h1).trans h2
theorem xl_OK_sI {M : xv_M} {r j : Nat} {v : Int} : xl_OK (xv_sI M r j v) = xl_OK M := rfl
theorem xl_OK_sJ {M : xv_M} {r j : Nat} {v : Int64} : xl_OK (xv_sJ M r j v) = xl_OK M := rfl
theorem xl_OK_rI {M : xv_M} {r : Nat} {g : Nat → Int} : xl_OK (xv_rI M r g) = xl_OK M := rfl
theorem xl_OK_rJ {M : xv_M} {r : Nat} {g : Nat → Int64} : xl_OK (xv_rJ M r g) = xl_OK M := rfl
theorem xk_1 {M : xv_M} (h : xl_OK M) : xv_kd M 1 = (11, 0) := xl_k h 1 rfl
theorem xk_2 {M : xv_M} (h : xl_OK M) : xv_kd M 2 = (2, 0) := xl_k h 2 rfl
theorem xk_3 {M : xv_M} (h : xl_OK M) : xv_kd M 3 = (6, 0) := xl_k h 3 rfl
theorem xk_4 {M : xv_M} (h : xl_OK M) : xv_kd M 4 = (5, 0) := xl_k h 4 rfl
theorem xk_5 {M : xv_M} (h : xl_OK M) : xv_kd M 5 = (14, 60) := xl_k h 5 rfl
theorem xk_6 {M : xv_M} (h : xl_OK M) : xv_kd M 6 = (14, 60) := xl_k h 6 rfl
theorem xk_7 {M : xv_M} (h : xl_OK M) : xv_kd M 7 = (14, 60) := xl_k h 7 rfl
theorem xk_8 {M : xv_M} (h : xl_OK M) : xv_kd M 8 = (14, 60) := xl_k h 8 rfl
theorem xk_9 {M : xv_M} (h : xl_OK M) : xv_kd M 9 = (14, 60) := xl_k h 9 rfl
theorem xk_10 {M : xv_M} (h : xl_OK M) : xv_kd M 10 = (14, 60) := xl_k h 10 rfl
theorem xk_11 {M : xv_M} (h : xl_OK M) : xv_kd M 11 = (9, 0) := xl_k h 11 rfl
theorem xk_12 {M : xv_M} (h : xl_OK M) : xv_kd M 12 = (14, 6) := xl_k h 12 rfl
theorem xk_13 {M : xv_M} (h : xl_OK M) : xv_kd M 13 = (14, 6) := xl_k h 13 rfl
theorem xk_14 {M : xv_M} (h : xl_OK M) : xv_kd M 14 = (15, 6) := xl_k h 14 rfl
theorem xk_15 {M : xv_M} (h : xl_OK M) : xv_kd M 15 = (14, 6) := xl_k h 15 rfl
theorem xk_16 {M : xv_M} (h : xl_OK M) : xv_kd M 16 = (14, 6) := xl_k h 16 rfl
theorem xk_17 {M : xv_M} (h : xl_OK M) : xv_kd M 17 = (14, 6) := xl_k h 17 rfl
theorem xk_18 {M : xv_M} (h : xl_OK M) : xv_kd M 18 = (14, 6) := xl_k h 18 rfl
theorem xk_19 {M : xv_M} (h : xl_OK M) : xv_kd M 19 = (18, 6) := xl_k h 19 rfl
theorem xk_20 {M : xv_M} (h : xl_OK M) : xv_kd M 20 = (14, 60) := xl_k h 20 rfl
theorem xk_21 {M : xv_M} (h : xl_OK M) : xv_kd M 21 = (14, 60) := xl_k h 21 rfl
theorem xk_22 {M : xv_M} (h : xl_OK M) : xv_kd M 22 = (14, 60) := xl_k h 22 rfl
theorem xk_23 {M : xv_M} (h : xl_OK M) : xv_kd M 23 = (14, 60) := xl_k h 23 rfl
theorem xk_24 {M : xv_M} (h : xl_OK M) : xv_kd M 24 = (14, 60) := xl_k h 24 rfl
theorem xk_25 {M : xv_M} (h : xl_OK M) : xv_kd M 25 = (14, 60) := xl_k h 25 rfl
theorem xk_26 {M : xv_M} (h : xl_OK M) : xv_kd M 26 = (3, 0) := xl_k h 26 rfl
theorem xk_27 {M : xv_M} (h : xl_OK M) : xv_kd M 27 = (14, 12) := xl_k h 27 rfl
theorem xk_28 {M : xv_M} (h : xl_OK M) : xv_kd M 28 = (14, 12) := xl_k h 28 rfl
theorem xk_29 {M : xv_M} (h : xl_OK M) : xv_kd M 29 = (14, 12) := xl_k h 29 rfl
theorem xk_30 {M : xv_M} (h : xl_OK M) : xv_kd M 30 = (14, 12) := xl_k h 30 rfl
theorem xk_31 {M : xv_M} (h : xl_OK M) : xv_kd M 31 = (0, 0) := xl_k h 31 rfl
theorem xk_32 {M : xv_M} (h : xl_OK M) : xv_kd M 32 = (15, 1001) := xl_k h 32 rfl
theorem xk_33 {M : xv_M} (h : xl_OK M) : xv_kd M 33 = (8, 0) := xl_k h 33 rfl
theorem xk_34 {M : xv_M} (h : xl_OK M) : xv_kd M 34 = (14, 60) := xl_k h 34 rfl
theorem xk_35 {M : xv_M} (h : xl_OK M) : xv_kd M 35 = (14, 60) := xl_k h 35 rfl
theorem xk_36 {M : xv_M} (h : xl_OK M) : xv_kd M 36 = (14, 1001) := xl_k h 36 rfl
theorem xk_37 {M : xv_M} (h : xl_OK M) : xv_kd M 37 = (14, 1001) := xl_k h 37 rfl
theorem xk_38 {M : xv_M} (h : xl_OK M) : xv_kd M 38 = (10, 0) := xl_k h 38 rfl
theorem xk_39 {M : xv_M} (h : xl_OK M) : xv_kd M 39 = (1, 0) := xl_k h 39 rfl
theorem xk_40 {M : xv_M} (h : xl_OK M) : xv_kd M 40 = (17, 4) := xl_k h 40 rfl
theorem xk_41 {M : xv_M} (h : xl_OK M) : xv_kd M 41 = (6, 0) := xl_k h 41 rfl
theorem xk_42 {M : xv_M} (h : xl_OK M) : xv_kd M 42 = (5, 0) := xl_k h 42 rfl
theorem xk_43 {M : xv_M} (h : xl_OK M) : xv_kd M 43 = (14, 60) := xl_k h 43 rfl
theorem xk_44 {M : xv_M} (h : xl_OK M) : xv_kd M 44 = (14, 60) := xl_k h 44 rfl
theorem xk_45 {M : xv_M} (h : xl_OK M) : xv_kd M 45 = (14, 60) := xl_k h 45 rfl
theorem xk_46 {M : xv_M} (h : xl_OK M) : xv_kd M 46 = (14, 60) := xl_k h 46 rfl
theorem xk_47 {M : xv_M} (h : xl_OK M) : xv_kd M 47 = (14, 60) := xl_k h 47 rfl
theorem xk_48 {M : xv_M} (h : xl_OK M) : xv_kd M 48 = (14, 60) := xl_k h 48 rfl
theorem xk_49 {M : xv_M} (h : xl_OK M) : xv_kd M 49 = (9, 0) := xl_k h 49 rfl
theorem xk_50 {M : xv_M} (h : xl_OK M) : xv_kd M 50 = (14, 6) := xl_k h 50 rfl
theorem xk_51 {M : xv_M} (h : xl_OK M) : xv_kd M 51 = (14, 6) := xl_k h 51 rfl
theorem xk_52 {M : xv_M} (h : xl_OK M) : xv_kd M 52 = (15, 6) := xl_k h 52 rfl
theorem xk_53 {M : xv_M} (h : xl_OK M) : xv_kd M 53 = (14, 6) := xl_k h 53 rfl
theorem xk_54 {M : xv_M} (h : xl_OK M) : xv_kd M 54 = (14, 6) := xl_k h 54 rfl
theorem xk_55 {M : xv_M} (h : xl_OK M) : xv_kd M 55 = (14, 6) := xl_k h 55 rfl
theorem xk_56 {M : xv_M} (h : xl_OK M) : xv_kd M 56 = (14, 6) := xl_k h 56 rfl
theorem xk_57 {M : xv_M} (h : xl_OK M) : xv_kd M 57 = (18, 6) := xl_k h 57 rfl
theorem xk_58 {M : xv_M} (h : xl_OK M) : xv_kd M 58 = (14, 60) := xl_k h 58 rfl
theorem xk_59 {M : xv_M} (h : xl_OK M) : xv_kd M 59 = (14, 60) := xl_k h 59 rfl
theorem xk_60 {M : xv_M} (h : xl_OK M) : xv_kd M 60 = (14, 60) := xl_k h 60 rfl
theorem xk_61 {M : xv_M} (h : xl_OK M) : xv_kd M 61 = (14, 60) := xl_k h 61 rfl
theorem xk_62 {M : xv_M} (h : xl_OK M) : xv_kd M 62 = (14, 60) := xl_k h 62 rfl
theorem xk_63 {M : xv_M} (h : xl_OK M) : xv_kd M 63 = (14, 60) := xl_k h 63 rfl
theorem xk_64 {M : xv_M} (h : xl_OK M) : xv_kd M 64 = (3, 0) := xl_k h 64 rfl
theorem xk_65 {M : xv_M} (h : xl_OK M) : xv_kd M 65 = (14, 12) := xl_k h 65 rfl
theorem xk_66 {M : xv_M} (h : xl_OK M) : xv_kd M 66 = (14, 12) := xl_k h 66 rfl
theorem xk_67 {M : xv_M} (h : xl_OK M) : xv_kd M 67 = (14, 12) := xl_k h 67 rfl
theorem xk_68 {M : xv_M} (h : xl_OK M) : xv_kd M 68 = (14, 12) := xl_k h 68 rfl
theorem xk_69 {M : xv_M} (h : xl_OK M) : xv_kd M 69 = (6, 0) := xl_k h 69 rfl
theorem xk_70 {M : xv_M} (h : xl_OK M) : xv_kd M 70 = (5, 0) := xl_k h 70 rfl
theorem xk_71 {M : xv_M} (h : xl_OK M) : xv_kd M 71 = (14, 60) := xl_k h 71 rfl
theorem xk_72 {M : xv_M} (h : xl_OK M) : xv_kd M 72 = (14, 60) := xl_k h 72 rfl
theorem xk_73 {M : xv_M} (h : xl_OK M) : xv_kd M 73 = (14, 60) := xl_k h 73 rfl
theorem xk_74 {M : xv_M} (h : xl_OK M) : xv_kd M 74 = (14, 60) := xl_k h 74 rfl
theorem xk_75 {M : xv_M} (h : xl_OK M) : xv_kd M 75 = (14, 60) := xl_k h 75 rfl
theorem xk_76 {M : xv_M} (h : xl_OK M) : xv_kd M 76 = (14, 60) := xl_k h 76 rfl
theorem xk_77 {M : xv_M} (h : xl_OK M) : xv_kd M 77 = (9, 0) := xl_k h 77 rfl
theorem xk_78 {M : xv_M} (h : xl_OK M) : xv_kd M 78 = (14, 6) := xl_k h 78 rfl
theorem xk_79 {M : xv_M} (h : xl_OK M) : xv_kd M 79 = (14, 6) := xl_k h 79 rfl
theorem xk_80 {M : xv_M} (h : xl_OK M) : xv_kd M 80 = (15, 6) := xl_k h 80 rfl
theorem xk_81 {M : xv_M} (h : xl_OK M) : xv_kd M 81 = (14, 6) := xl_k h 81 rfl
theorem xk_82 {M : xv_M} (h : xl_OK M) : xv_kd M 82 = (14, 6) := xl_k h 82 rfl
theorem xk_83 {M : xv_M} (h : xl_OK M) : xv_kd M 83 = (14, 6) := xl_k h 83 rfl
theorem xk_84 {M : xv_M} (h : xl_OK M) : xv_kd M 84 = (14, 6) := xl_k h 84 rfl
theorem xk_85 {M : xv_M} (h : xl_OK M) : xv_kd M 85 = (18, 6) := xl_k h 85 rfl
theorem xk_86 {M : xv_M} (h : xl_OK M) : xv_kd M 86 = (14, 60) := xl_k h 86 rfl
theorem xk_87 {M : xv_M} (h : xl_OK M) : xv_kd M 87 = (14, 60) := xl_k h 87 rfl
theorem xk_88 {M : xv_M} (h : xl_OK M) : xv_kd M 88 = (14, 60) := xl_k h 88 rfl
theorem xk_89 {M : xv_M} (h : xl_OK M) : xv_kd M 89 = (14, 60) := xl_k h 89 rfl
theorem xk_90 {M : xv_M} (h : xl_OK M) : xv_kd M 90 = (14, 60) := xl_k h 90 rfl
theorem xk_91 {M : xv_M} (h : xl_OK M) : xv_kd M 91 = (14, 60) := xl_k h 91 rfl
theorem xk_92 {M : xv_M} (h : xl_OK M) : xv_kd M 92 = (3, 0) := xl_k h 92 rfl
theorem xk_93 {M : xv_M} (h : xl_OK M) : xv_kd M 93 = (14, 12) := xl_k h 93 rfl
theorem xk_94 {M : xv_M} (h : xl_OK M) : xv_kd M 94 = (14, 12) := xl_k h 94 rfl
theorem xk_95 {M : xv_M} (h : xl_OK M) : xv_kd M 95 = (14, 12) := xl_k h 95 rfl
theorem xk_96 {M : xv_M} (h : xl_OK M) : xv_kd M 96 = (14, 12) := xl_k h 96 rfl
theorem xk_97 {M : xv_M} (h : xl_OK M) : xv_kd M 97 = (6, 0) := xl_k h 97 rfl
theorem xk_98 {M : xv_M} (h : xl_OK M) : xv_kd M 98 = (5, 0) := xl_k h 98 rfl
theorem xk_99 {M : xv_M} (h : xl_OK M) : xv_kd M 99 = (14, 60) := xl_k h 99 rfl
theorem xk_100 {M : xv_M} (h : xl_OK M) : xv_kd M 100 = (14, 60) := xl_k h 100 rfl
theorem xk_101 {M : xv_M} (h : xl_OK M) : xv_kd M 101 = (14, 60) := xl_k h 101 rfl
theorem xk_102 {M : xv_M} (h : xl_OK M) : xv_kd M 102 = (14, 60) := xl_k h 102 rfl
theorem xk_103 {M : xv_M} (h : xl_OK M) : xv_kd M 103 = (14, 60) := xl_k h 103 rfl
theorem xk_104 {M : xv_M} (h : xl_OK M) : xv_kd M 104 = (14, 60) := xl_k h 104 rfl
theorem xk_105 {M : xv_M} (h : xl_OK M) : xv_kd M 105 = (9, 0) := xl_k h 105 rfl
theorem xk_106 {M : xv_M} (h : xl_OK M) : xv_kd M 106 = (14, 6) := xl_k h 106 rfl
theorem xk_107 {M : xv_M} (h : xl_OK M) : xv_kd M 107 = (14, 6) := xl_k h 107 rfl
theorem xk_108 {M : xv_M} (h : xl_OK M) : xv_kd M 108 = (15, 6) := xl_k h 108 rfl
theorem xk_109 {M : xv_M} (h : xl_OK M) : xv_kd M 109 = (14, 6) := xl_k h 109 rfl
theorem xk_110 {M : xv_M} (h : xl_OK M) : xv_kd M 110 = (14, 6) := xl_k h 110 rfl
theorem xk_111 {M : xv_M} (h : xl_OK M) : xv_kd M 111 = (14, 6) := xl_k h 111 rfl
theorem xk_112 {M : xv_M} (h : xl_OK M) : xv_kd M 112 = (14, 6) := xl_k h 112 rfl
theorem xk_113 {M : xv_M} (h : xl_OK M) : xv_kd M 113 = (18, 6) := xl_k h 113 rfl
theorem xk_114 {M : xv_M} (h : xl_OK M) : xv_kd M 114 = (14, 60) := xl_k h 114 rfl
theorem xk_115 {M : xv_M} (h : xl_OK M) : xv_kd M 115 = (14, 60) := xl_k h 115 rfl
theorem xk_116 {M : xv_M} (h : xl_OK M) : xv_kd M 116 = (14, 60) := xl_k h 116 rfl
theorem xk_117 {M : xv_M} (h : xl_OK M) : xv_kd M 117 = (14, 60) := xl_k h 117 rfl
theorem xk_118 {M : xv_M} (h : xl_OK M) : xv_kd M 118 = (14, 60) := xl_k h 118 rfl
theorem xk_119 {M : xv_M} (h : xl_OK M) : xv_kd M 119 = (14, 60) := xl_k h 119 rfl
theorem xk_120 {M : xv_M} (h : xl_OK M) : xv_kd M 120 = (3, 0) := xl_k h 120 rfl
theorem xk_121 {M : xv_M} (h : xl_OK M) : xv_kd M 121 = (14, 12) := xl_k h 121 rfl
theorem xk_122 {M : xv_M} (h : xl_OK M) : xv_kd M 122 = (14, 12) := xl_k h 122 rfl
theorem xk_123 {M : xv_M} (h : xl_OK M) : xv_kd M 123 = (14, 12) := xl_k h 123 rfl
theorem xk_124 {M : xv_M} (h : xl_OK M) : xv_kd M 124 = (14, 12) := xl_k h 124 rfl
theorem xk_125 {M : xv_M} (h : xl_OK M) : xv_kd M 125 = (6, 0) := xl_k h 125 rfl
theorem xk_126 {M : xv_M} (h : xl_OK M) : xv_kd M 126 = (5, 0) := xl_k h 126 rfl
theorem xk_127 {M : xv_M} (h : xl_OK M) : xv_kd M 127 = (14, 60) := xl_k h 127 rfl
theorem xk_128 {M : xv_M} (h : xl_OK M) : xv_kd M 128 = (14, 60) := xl_k h 128 rfl
theorem xk_129 {M : xv_M} (h : xl_OK M) : xv_kd M 129 = (14, 60) := xl_k h 129 rfl
theorem xk_130 {M : xv_M} (h : xl_OK M) : xv_kd M 130 = (14, 60) := xl_k h 130 rfl
theorem xk_131 {M : xv_M} (h : xl_OK M) : xv_kd M 131 = (14, 60) := xl_k h 131 rfl
theorem xk_132 {M : xv_M} (h : xl_OK M) : xv_kd M 132 = (14, 60) := xl_k h 132 rfl
theorem xk_133 {M : xv_M} (h : xl_OK M) : xv_kd M 133 = (9, 0) := xl_k h 133 rfl
theorem xk_134 {M : xv_M} (h : xl_OK M) : xv_kd M 134 = (14, 6) := xl_k h 134 rfl
theorem xk_135 {M : xv_M} (h : xl_OK M) : xv_kd M 135 = (14, 6) := xl_k h 135 rfl
theorem xk_136 {M : xv_M} (h : xl_OK M) : xv_kd M 136 = (15, 6) := xl_k h 136 rfl
theorem xk_137 {M : xv_M} (h : xl_OK M) : xv_kd M 137 = (14, 6) := xl_k h 137 rfl
theorem xk_138 {M : xv_M} (h : xl_OK M) : xv_kd M 138 = (14, 6) := xl_k h 138 rfl
theorem xk_139 {M : xv_M} (h : xl_OK M) : xv_kd M 139 = (14, 6) := xl_k h 139 rfl
theorem xk_140 {M : xv_M} (h : xl_OK M) : xv_kd M 140 = (14, 6) := xl_k h 140 rfl
theorem xk_141 {M : xv_M} (h : xl_OK M) : xv_kd M 141 = (18, 6) := xl_k h 141 rfl
theorem xk_142 {M : xv_M} (h : xl_OK M) : xv_kd M 142 = (14, 60) := xl_k h 142 rfl
theorem xk_143 {M : xv_M} (h : xl_OK M) : xv_kd M 143 = (14, 60) := xl_k h 143 rfl
theorem xk_144 {M : xv_M} (h : xl_OK M) : xv_kd M 144 = (14, 60) := xl_k h 144 rfl
theorem xk_145 {M : xv_M} (h : xl_OK M) : xv_kd M 145 = (14, 60) := xl_k h 145 rfl
theorem xk_146 {M : xv_M} (h : xl_OK M) : xv_kd M 146 = (14, 60) := xl_k h 146 rfl
theorem xk_147 {M : xv_M} (h : xl_OK M) : xv_kd M 147 = (14, 60) := xl_k h 147 rfl
theorem xk_148 {M : xv_M} (h : xl_OK M) : xv_kd M 148 = (3, 0) := xl_k h 148 rfl
theorem xk_149 {M : xv_M} (h : xl_OK M) : xv_kd M 149 = (14, 12) := xl_k h 149 rfl
theorem xk_150 {M : xv_M} (h : xl_OK M) : xv_kd M 150 = (14, 12) := xl_k h 150 rfl
theorem xk_151 {M : xv_M} (h : xl_OK M) : xv_kd M 151 = (14, 12) := xl_k h 151 rfl
theorem xk_152 {M : xv_M} (h : xl_OK M) : xv_kd M 152 = (14, 12) := xl_k h 152 rfl
theorem xk_153 {M : xv_M} (h : xl_OK M) : xv_kd M 153 = (6, 0) := xl_k h 153 rfl
theorem xk_154 {M : xv_M} (h : xl_OK M) : xv_kd M 154 = (5, 0) := xl_k h 154 rfl
theorem xk_155 {M : xv_M} (h : xl_OK M) : xv_kd M 155 = (14, 60) := xl_k h 155 rfl
theorem xk_156 {M : xv_M} (h : xl_OK M) : xv_kd M 156 = (14, 60) := xl_k h 156 rfl
theorem xk_157 {M : xv_M} (h : xl_OK M) : xv_kd M 157 = (14, 60) := xl_k h 157 rfl
theorem xk_158 {M : xv_M} (h : xl_OK M) : xv_kd M 158 = (14, 60) := xl_k h 158 rfl
theorem xk_159 {M : xv_M} (h : xl_OK M) : xv_kd M 159 = (14, 60) := xl_k h 159 rfl
theorem xk_160 {M : xv_M} (h : xl_OK M) : xv_kd M 160 = (14, 60) := xl_k h 160 rfl
theorem xk_161 {M : xv_M} (h : xl_OK M) : xv_kd M 161 = (9, 0) := xl_k h 161 rfl
theorem xk_162 {M : xv_M} (h : xl_OK M) : xv_kd M 162 = (14, 6) := xl_k h 162 rfl
theorem xk_163 {M : xv_M} (h : xl_OK M) : xv_kd M 163 = (14, 6) := xl_k h 163 rfl
theorem xk_164 {M : xv_M} (h : xl_OK M) : xv_kd M 164 = (15, 6) := xl_k h 164 rfl
theorem xk_165 {M : xv_M} (h : xl_OK M) : xv_kd M 165 = (14, 6) := xl_k h 165 rfl
theorem xk_166 {M : xv_M} (h : xl_OK M) : xv_kd M 166 = (14, 6) := xl_k h 166 rfl
theorem xk_167 {M : xv_M} (h : xl_OK M) : xv_kd M 167 = (14, 6) := xl_k h 167 rfl
theorem xk_168 {M : xv_M} (h : xl_OK M) : xv_kd M 168 = (14, 6) := xl_k h 168 rfl
theorem xk_169 {M : xv_M} (h : xl_OK M) : xv_kd M 169 = (18, 6) := xl_k h 169 rfl
theorem xk_170 {M : xv_M} (h : xl_OK M) : xv_kd M 170 = (14, 60) := xl_k h 170 rfl
theorem xk_171 {M : xv_M} (h : xl_OK M) : xv_kd M 171 = (14, 60) := xl_k h 171 rfl
theorem xk_172 {M : xv_M} (h : xl_OK M) : xv_kd M 172 = (14, 60) := xl_k h 172 rfl
theorem xk_173 {M : xv_M} (h : xl_OK M) : xv_kd M 173 = (14, 60) := xl_k h 173 rfl
theorem xk_174 {M : xv_M} (h : xl_OK M) : xv_kd M 174 = (14, 60) := xl_k h 174 rfl
theorem xk_175 {M : xv_M} (h : xl_OK M) : xv_kd M 175 = (14, 60) := xl_k h 175 rfl
theorem xk_176 {M : xv_M} (h : xl_OK M) : xv_kd M 176 = (3, 0) := xl_k h 176 rfl
theorem xk_177 {M : xv_M} (h : xl_OK M) : xv_kd M 177 = (14, 12) := xl_k h 177 rfl
theorem xk_178 {M : xv_M} (h : xl_OK M) : xv_kd M 178 = (14, 12) := xl_k h 178 rfl
theorem xk_179 {M : xv_M} (h : xl_OK M) : xv_kd M 179 = (14, 12) := xl_k h 179 rfl
theorem xk_180 {M : xv_M} (h : xl_OK M) : xv_kd M 180 = (14, 12) := xl_k h 180 rfl
theorem xk_181 {M : xv_M} (h : xl_OK M) : xv_kd M 181 = (7, 0) := xl_k h 181 rfl
theorem xk_182 {M : xv_M} (h : xl_OK M) : xv_kd M 182 = (13, 60) := xl_k h 182 rfl
theorem xk_183 {M : xv_M} (h : xl_OK M) : xv_kd M 183 = (4, 0) := xl_k h 183 rfl
theorem xk_184 {M : xv_M} (h : xl_OK M) : xv_kd M 184 = (14, 12) := xl_k h 184 rfl
theorem xk_185 {M : xv_M} (h : xl_OK M) : xv_kd M 185 = (14, 12) := xl_k h 185 rfl
theorem xk_186 {M : xv_M} (h : xl_OK M) : xv_kd M 186 = (16, 12) := xl_k h 186 rfl
theorem xk_187 {M : xv_M} (h : xl_OK M) : xv_kd M 187 = (16, 12) := xl_k h 187 rfl
theorem xk_188 {M : xv_M} (h : xl_OK M) : xv_kd M 188 = (12, 0) := xl_k h 188 rfl
theorem xk_189 {M : xv_M} (h : xl_OK M) : xv_kd M 189 = (14, 870) := xl_k h 189 rfl
theorem xk_190 {M : xv_M} (h : xl_OK M) : xv_kd M 190 = (14, 3480) := xl_k h 190 rfl
theorem xk_191 {M : xv_M} (h : xl_OK M) : xv_kd M 191 = (14, 870) := xl_k h 191 rfl
theorem xk_192 {M : xv_M} (h : xl_OK M) : xv_kd M 192 = (13, 60) := xl_k h 192 rfl
theorem xk_193 {M : xv_M} (h : xl_OK M) : xv_kd M 193 = (16, 1001) := xl_k h 193 rfl
theorem xk_194 {M : xv_M} (h : xl_OK M) : xv_kd M 194 = (14, 1001) := xl_k h 194 rfl
def xl_tab : List (Nat × Nat × Nat) := [(1, 0, 2), (1, 1, 39), (1, 2, 153), (1, 3, 181), (1, 4, 183), (2, 0, 3), (2, 1, 31), (2, 2, 33), (3, 1, 4), (3, 2, 11), (3, 3, 26), (4, 2, 5), (4, 3, 6), (4, 4, 7), (4, 5, 8), (4, 6, 9), (4, 7, 10), (11, 1, 12), (11, 2, 13), (11, 3, 14), (11, 4, 15), (11, 5, 16), (11, 6, 17), (11, 7, 18), (11, 8, 19), (19, 0, 20), (19, 1, 21), (19, 2, 22), (19, 3, 23), (19, 4, 24), (19, 5, 25), (26, 2, 27), (26, 3, 28), (26, 4, 29), (26, 5, 30), (31, 0, 32), (33, 0, 34), (33, 1, 35), (33, 2, 36), (33, 3, 37), (33, 4, 38), (39, 1, 40), (40, 0, 41), (40, 1, 69), (40, 2, 97), (40, 3, 125), (41, 1, 42), (41, 2, 49), (41, 3, 64), (42, 2, 43), (42, 3, 44), (42, 4, 45), (42, 5, 46), (42, 6, 47), (42, 7, 48), (49, 1, 50), (49, 2, 51), (49, 3, 52), (49, 4, 53), (49, 5, 54), (49, 6, 55), (49, 7, 56), (49, 8, 57), (57, 0, 58), (57, 1, 59), (57, 2, 60), (57, 3, 61), (57, 4, 62), (57, 5, 63), (64, 2, 65), (64, 3, 66), (64, 4, 67), (64, 5, 68), (69, 1, 70), (69, 2, 77), (69, 3, 92), (70, 2, 71), (70, 3, 72), (70, 4, 73), (70, 5, 74), (70, 6, 75), (70, 7, 76), (77, 1, 78), (77, 2, 79), (77, 3, 80), (77, 4, 81), (77, 5, 82), (77, 6, 83), (77, 7, 84), (77, 8, 85), (85, 0, 86), (85, 1, 87), (85, 2, 88), (85, 3, 89), (85, 4, 90), (85, 5, 91), (92, 2, 93), (92, 3, 94), (92, 4, 95), (92, 5, 96), (97, 1, 98), (97, 2, 105), (97, 3, 120), (98, 2, 99), (98, 3, 100), (98, 4, 101), (98, 5, 102), (98, 6, 103), (98, 7, 104), (105, 1, 106), (105, 2, 107), (105, 3, 108), (105, 4, 109), (105, 5, 110), (105, 6, 111), (105, 7, 112), (105, 8, 113), (113, 0, 114), (113, 1, 115), (113, 2, 116), (113, 3, 117), (113, 4, 118), (113, 5, 119), (120, 2, 121), (120, 3, 122), (120, 4, 123), (120, 5, 124), (125, 1, 126), (125, 2, 133), (125, 3, 148), (126, 2, 127), (126, 3, 128), (126, 4, 129), (126, 5, 130), (126, 6, 131), (126, 7, 132), (133, 1, 134), (133, 2, 135), (133, 3, 136), (133, 4, 137), (133, 5, 138), (133, 6, 139), (133, 7, 140), (133, 8, 141), (141, 0, 142), (141, 1, 143), (141, 2, 144), (141, 3, 145), (141, 4, 146), (141, 5, 147), (148, 2, 149), (148, 3, 150), (148, 4, 151), (148, 5, 152), (153, 1, 154), (153, 2, 161), (153, 3, 176), (154, 2, 155), (154, 3, 156), (154, 4, 157), (154, 5, 158), (154, 6, 159), (154, 7, 160), (161, 1, 162), (161, 2, 163), (161, 3, 164), (161, 4, 165), (161, 5, 166), (161, 6, 167), (161, 7, 168), (161, 8, 169), (169, 0, 170), (169, 1, 171), (169, 2, 172), (169, 3, 173), (169, 4, 174), (169, 5, 175), (176, 2, 177), (176, 3, 178), (176, 4, 179), (176, 5, 180), (181, 1, 182), (183, 1, 184), (183, 2, 185), (183, 3, 186), (183, 4, 187), (188, 0, 189), (188, 1, 190), (188, 3, 191), (188, 6, 192), (188, 15, 193), (188, 16, 194)]
set_option maxRecDepth 100000 in
theorem xl_tab_ok : xl_tab.all (fun q => xl_P0 q.1 q.2.1 == q.2.2) = true := by decide +kernel
theorem xl_tab_at (i : Nat) {r j v : Nat} (h : xl_tab[i]? = some (r, j, v)) : xl_P0 r j = v := by
  have := List.all_eq_true.mp xl_tab_ok _ (List.mem_of_getElem? h)
  simpa using this
theorem xp_1_0 {M : xv_M} (h : xl_OK M) : xv_P M 1 0 = 2 := xl_p h 1 0 (by decide) (xl_tab_at 0 rfl)
theorem xp_1_1 {M : xv_M} (h : xl_OK M) : xv_P M 1 1 = 39 := xl_p h 1 1 (by decide) (xl_tab_at 1 rfl)
theorem xp_1_2 {M : xv_M} (h : xl_OK M) : xv_P M 1 2 = 153 := xl_p h 1 2 (by decide) (xl_tab_at 2 rfl)
theorem xp_1_3 {M : xv_M} (h : xl_OK M) : xv_P M 1 3 = 181 := xl_p h 1 3 (by decide) (xl_tab_at 3 rfl)
theorem xp_1_4 {M : xv_M} (h : xl_OK M) : xv_P M 1 4 = 183 := xl_p h 1 4 (by decide) (xl_tab_at 4 rfl)
theorem xp_2_0 {M : xv_M} (h : xl_OK M) : xv_P M 2 0 = 3 := xl_p h 2 0 (by decide) (xl_tab_at 5 rfl)
theorem xp_2_1 {M : xv_M} (h : xl_OK M) : xv_P M 2 1 = 31 := xl_p h 2 1 (by decide) (xl_tab_at 6 rfl)
theorem xp_2_2 {M : xv_M} (h : xl_OK M) : xv_P M 2 2 = 33 := xl_p h 2 2 (by decide) (xl_tab_at 7 rfl)
theorem xp_3_1 {M : xv_M} (h : xl_OK M) : xv_P M 3 1 = 4 := xl_p h 3 1 (by decide) (xl_tab_at 8 rfl)
theorem xp_3_2 {M : xv_M} (h : xl_OK M) : xv_P M 3 2 = 11 := xl_p h 3 2 (by decide) (xl_tab_at 9 rfl)
theorem xp_3_3 {M : xv_M} (h : xl_OK M) : xv_P M 3 3 = 26 := xl_p h 3 3 (by decide) (xl_tab_at 10 rfl)
theorem xp_4_2 {M : xv_M} (h : xl_OK M) : xv_P M 4 2 = 5 := xl_p h 4 2 (by decide) (xl_tab_at 11 rfl)
theorem xp_4_3 {M : xv_M} (h : xl_OK M) : xv_P M 4 3 = 6 := xl_p h 4 3 (by decide) (xl_tab_at 12 rfl)
theorem xp_4_4 {M : xv_M} (h : xl_OK M) : xv_P M 4 4 = 7 := xl_p h 4 4 (by decide) (xl_tab_at 13 rfl)
theorem xp_4_5 {M : xv_M} (h : xl_OK M) : xv_P M 4 5 = 8 := xl_p h 4 5 (by decide) (xl_tab_at 14 rfl)
theorem xp_4_6 {M : xv_M} (h : xl_OK M) : xv_P M 4 6 = 9 := xl_p h 4 6 (by decide) (xl_tab_at 15 rfl)
theorem xp_4_7 {M : xv_M} (h : xl_OK M) : xv_P M 4 7 = 10 := xl_p h 4 7 (by decide) (xl_tab_at 16 rfl)
theorem xp_11_1 {M : xv_M} (h : xl_OK M) : xv_P M 11 1 = 12 := xl_p h 11 1 (by decide) (xl_tab_at 17 rfl)
theorem xp_11_2 {M : xv_M} (h : xl_OK M) : xv_P M 11 2 = 13 := xl_p h 11 2 (by decide) (xl_tab_at 18 rfl)
theorem xp_11_3 {M : xv_M} (h : xl_OK M) : xv_P M 11 3 = 14 := xl_p h 11 3 (by decide) (xl_tab_at 19 rfl)
theorem xp_11_4 {M : xv_M} (h : xl_OK M) : xv_P M 11 4 = 15 := xl_p h 11 4 (by decide) (xl_tab_at 20 rfl)
theorem xp_11_5 {M : xv_M} (h : xl_OK M) : xv_P M 11 5 = 16 := xl_p h 11 5 (by decide) (xl_tab_at 21 rfl)
theorem xp_11_6 {M : xv_M} (h : xl_OK M) : xv_P M 11 6 = 17 := xl_p h 11 6 (by decide) (xl_tab_at 22 rfl)
theorem xp_11_7 {M : xv_M} (h : xl_OK M) : xv_P M 11 7 = 18 := xl_p h 11 7 (by decide) (xl_tab_at 23 rfl)
theorem xp_11_8 {M : xv_M} (h : xl_OK M) : xv_P M 11 8 = 19 := xl_p h 11 8 (by decide) (xl_tab_at 24 rfl)
theorem xp_19_0 {M : xv_M} (h : xl_OK M) : xv_P M 19 0 = 20 := xl_p h 19 0 (by decide) (xl_tab_at 25 rfl)
theorem xp_19_1 {M : xv_M} (h : xl_OK M) : xv_P M 19 1 = 21 := xl_p h 19 1 (by decide) (xl_tab_at 26 rfl)
theorem xp_19_2 {M : xv_M} (h : xl_OK M) : xv_P M 19 2 = 22 := xl_p h 19 2 (by decide) (xl_tab_at 27 rfl)
theorem xp_19_3 {M : xv_M} (h : xl_OK M) : xv_P M 19 3 = 23 := xl_p h 19 3 (by decide) (xl_tab_at 28 rfl)
theorem xp_19_4 {M : xv_M} (h : xl_OK M) : xv_P M 19 4 = 24 := xl_p h 19 4 (by decide) (xl_tab_at 29 rfl)
theorem xp_19_5 {M : xv_M} (h : xl_OK M) : xv_P M 19 5 = 25 := xl_p h 19 5 (by decide) (xl_tab_at 30 rfl)
theorem xp_26_2 {M : xv_M} (h : xl_OK M) : xv_P M 26 2 = 27 := xl_p h 26 2 (by decide) (xl_tab_at 31 rfl)
theorem xp_26_3 {M : xv_M} (h : xl_OK M) : xv_P M 26 3 = 28 := xl_p h 26 3 (by decide) (xl_tab_at 32 rfl)
theorem xp_26_4 {M : xv_M} (h : xl_OK M) : xv_P M 26 4 = 29 := xl_p h 26 4 (by decide) (xl_tab_at 33 rfl)
theorem xp_26_5 {M : xv_M} (h : xl_OK M) : xv_P M 26 5 = 30 := xl_p h 26 5 (by decide) (xl_tab_at 34 rfl)
theorem xp_31_0 {M : xv_M} (h : xl_OK M) : xv_P M 31 0 = 32 := xl_p h 31 0 (by decide) (xl_tab_at 35 rfl)
theorem xp_33_0 {M : xv_M} (h : xl_OK M) : xv_P M 33 0 = 34 := xl_p h 33 0 (by decide) (xl_tab_at 36 rfl)
theorem xp_33_1 {M : xv_M} (h : xl_OK M) : xv_P M 33 1 = 35 := xl_p h 33 1 (by decide) (xl_tab_at 37 rfl)
theorem xp_33_2 {M : xv_M} (h : xl_OK M) : xv_P M 33 2 = 36 := xl_p h 33 2 (by decide) (xl_tab_at 38 rfl)
theorem xp_33_3 {M : xv_M} (h : xl_OK M) : xv_P M 33 3 = 37 := xl_p h 33 3 (by decide) (xl_tab_at 39 rfl)
theorem xp_33_4 {M : xv_M} (h : xl_OK M) : xv_P M 33 4 = 38 := xl_p h 33 4 (by decide) (xl_tab_at 40 rfl)
theorem xp_39_1 {M : xv_M} (h : xl_OK M) : xv_P M 39 1 = 40 := xl_p h 39 1 (by decide) (xl_tab_at 41 rfl)
theorem xp_41_1 {M : xv_M} (h : xl_OK M) : xv_P M 41 1 = 42 := xl_p h 41 1 (by decide) (xl_tab_at 46 rfl)
theorem xp_41_2 {M : xv_M} (h : xl_OK M) : xv_P M 41 2 = 49 := xl_p h 41 2 (by decide) (xl_tab_at 47 rfl)
theorem xp_41_3 {M : xv_M} (h : xl_OK M) : xv_P M 41 3 = 64 := xl_p h 41 3 (by decide) (xl_tab_at 48 rfl)
theorem xp_42_2 {M : xv_M} (h : xl_OK M) : xv_P M 42 2 = 43 := xl_p h 42 2 (by decide) (xl_tab_at 49 rfl)
theorem xp_42_3 {M : xv_M} (h : xl_OK M) : xv_P M 42 3 = 44 := xl_p h 42 3 (by decide) (xl_tab_at 50 rfl)
theorem xp_42_4 {M : xv_M} (h : xl_OK M) : xv_P M 42 4 = 45 := xl_p h 42 4 (by decide) (xl_tab_at 51 rfl)
theorem xp_42_5 {M : xv_M} (h : xl_OK M) : xv_P M 42 5 = 46 := xl_p h 42 5 (by decide) (xl_tab_at 52 rfl)
theorem xp_42_6 {M : xv_M} (h : xl_OK M) : xv_P M 42 6 = 47 := xl_p h 42 6 (by decide) (xl_tab_at 53 rfl)
theorem xp_42_7 {M : xv_M} (h : xl_OK M) : xv_P M 42 7 = 48 := xl_p h 42 7 (by decide) (xl_tab_at 54 rfl)
theorem xp_49_1 {M : xv_M} (h : xl_OK M) : xv_P M 49 1 = 50 := xl_p h 49 1 (by decide) (xl_tab_at 55 rfl)
theorem xp_49_2 {M : xv_M} (h : xl_OK M) : xv_P M 49 2 = 51 := xl_p h 49 2 (by decide) (xl_tab_at 56 rfl)
theorem xp_49_3 {M : xv_M} (h : xl_OK M) : xv_P M 49 3 = 52 := xl_p h 49 3 (by decide) (xl_tab_at 57 rfl)
theorem xp_49_4 {M : xv_M} (h : xl_OK M) : xv_P M 49 4 = 53 := xl_p h 49 4 (by decide) (xl_tab_at 58 rfl)
theorem xp_49_5 {M : xv_M} (h : xl_OK M) : xv_P M 49 5 = 54 := xl_p h 49 5 (by decide) (xl_tab_at 59 rfl)
theorem xp_49_6 {M : xv_M} (h : xl_OK M) : xv_P M 49 6 = 55 := xl_p h 49 6 (by decide) (xl_tab_at 60 rfl)
theorem xp_49_7 {M : xv_M} (h : xl_OK M) : xv_P M 49 7 = 56 := xl_p h 49 7 (by decide) (xl_tab_at 61 rfl)
theorem xp_49_8 {M : xv_M} (h : xl_OK M) : xv_P M 49 8 = 57 := xl_p h 49 8 (by decide) (xl_tab_at 62 rfl)
theorem xp_57_0 {M : xv_M} (h : xl_OK M) : xv_P M 57 0 = 58 := xl_p h 57 0 (by decide) (xl_tab_at 63 rfl)
theorem xp_57_1 {M : xv_M} (h : xl_OK M) : xv_P M 57 1 = 59 := xl_p h 57 1 (by decide) (xl_tab_at 64 rfl)
theorem xp_57_2 {M : xv_M} (h : xl_OK M) : xv_P M 57 2 = 60 := xl_p h 57 2 (by decide) (xl_tab_at 65 rfl)
theorem xp_57_3 {M : xv_M} (h : xl_OK M) : xv_P M 57 3 = 61 := xl_p h 57 3 (by decide) (xl_tab_at 66 rfl)
theorem xp_57_4 {M : xv_M} (h : xl_OK M) : xv_P M 57 4 = 62 := xl_p h 57 4 (by decide) (xl_tab_at 67 rfl)
theorem xp_57_5 {M : xv_M} (h : xl_OK M) : xv_P M 57 5 = 63 := xl_p h 57 5 (by decide) (xl_tab_at 68 rfl)
theorem xp_64_2 {M : xv_M} (h : xl_OK M) : xv_P M 64 2 = 65 := xl_p h 64 2 (by decide) (xl_tab_at 69 rfl)
theorem xp_64_3 {M : xv_M} (h : xl_OK M) : xv_P M 64 3 = 66 := xl_p h 64 3 (by decide) (xl_tab_at 70 rfl)
theorem xp_64_4 {M : xv_M} (h : xl_OK M) : xv_P M 64 4 = 67 := xl_p h 64 4 (by decide) (xl_tab_at 71 rfl)
theorem xp_64_5 {M : xv_M} (h : xl_OK M) : xv_P M 64 5 = 68 := xl_p h 64 5 (by decide) (xl_tab_at 72 rfl)
theorem xp_69_1 {M : xv_M} (h : xl_OK M) : xv_P M 69 1 = 70 := xl_p h 69 1 (by decide) (xl_tab_at 73 rfl)
theorem xp_69_2 {M : xv_M} (h : xl_OK M) : xv_P M 69 2 = 77 := xl_p h 69 2 (by decide) (xl_tab_at 74 rfl)
theorem xp_69_3 {M : xv_M} (h : xl_OK M) : xv_P M 69 3 = 92 := xl_p h 69 3 (by decide) (xl_tab_at 75 rfl)
theorem xp_70_2 {M : xv_M} (h : xl_OK M) : xv_P M 70 2 = 71 := xl_p h 70 2 (by decide) (xl_tab_at 76 rfl)
theorem xp_70_3 {M : xv_M} (h : xl_OK M) : xv_P M 70 3 = 72 := xl_p h 70 3 (by decide) (xl_tab_at 77 rfl)
theorem xp_70_4 {M : xv_M} (h : xl_OK M) : xv_P M 70 4 = 73 := xl_p h 70 4 (by decide) (xl_tab_at 78 rfl)
theorem xp_70_5 {M : xv_M} (h : xl_OK M) : xv_P M 70 5 = 74 := xl_p h 70 5 (by decide) (xl_tab_at 79 rfl)
theorem xp_70_6 {M : xv_M} (h : xl_OK M) : xv_P M 70 6 = 75 := xl_p h 70 6 (by decide) (xl_tab_at 80 rfl)
theorem xp_70_7 {M : xv_M} (h : xl_OK M) : xv_P M 70 7 = 76 := xl_p h 70 7 (by decide) (xl_tab_at 81 rfl)
theorem xp_77_1 {M : xv_M} (h : xl_OK M) : xv_P M 77 1 = 78 := xl_p h 77 1 (by decide) (xl_tab_at 82 rfl)
theorem xp_77_2 {M : xv_M} (h : xl_OK M) : xv_P M 77 2 = 79 := xl_p h 77 2 (by decide) (xl_tab_at 83 rfl)
theorem xp_77_3 {M : xv_M} (h : xl_OK M) : xv_P M 77 3 = 80 := xl_p h 77 3 (by decide) (xl_tab_at 84 rfl)
theorem xp_77_4 {M : xv_M} (h : xl_OK M) : xv_P M 77 4 = 81 := xl_p h 77 4 (by decide) (xl_tab_at 85 rfl)
theorem xp_77_5 {M : xv_M} (h : xl_OK M) : xv_P M 77 5 = 82 := xl_p h 77 5 (by decide) (xl_tab_at 86 rfl)
theorem xp_77_6 {M : xv_M} (h : xl_OK M) : xv_P M 77 6 = 83 := xl_p h 77 6 (by decide) (xl_tab_at 87 rfl)
theorem xp_77_7 {M : xv_M} (h : xl_OK M) : xv_P M 77 7 = 84 := xl_p h 77 7 (by decide) (xl_tab_at 88 rfl)
theorem xp_77_8 {M : xv_M} (h : xl_OK M) : xv_P M 77 8 = 85 := xl_p h 77 8 (by decide) (xl_tab_at 89 rfl)
theorem xp_85_0 {M : xv_M} (h : xl_OK M) : xv_P M 85 0 = 86 := xl_p h 85 0 (by decide) (xl_tab_at 90 rfl)
theorem xp_85_1 {M : xv_M} (h : xl_OK M) : xv_P M 85 1 = 87 := xl_p h 85 1 (by decide) (xl_tab_at 91 rfl)
theorem xp_85_2 {M : xv_M} (h : xl_OK M) : xv_P M 85 2 = 88 := xl_p h 85 2 (by decide) (xl_tab_at 92 rfl)
theorem xp_85_3 {M : xv_M} (h : xl_OK M) : xv_P M 85 3 = 89 := xl_p h 85 3 (by decide) (xl_tab_at 93 rfl)
theorem xp_85_4 {M : xv_M} (h : xl_OK M) : xv_P M 85 4 = 90 := xl_p h 85 4 (by decide) (xl_tab_at 94 rfl)
theorem xp_85_5 {M : xv_M} (h : xl_OK M) : xv_P M 85 5 = 91 := xl_p h 85 5 (by decide) (xl_tab_at 95 rfl)
theorem xp_92_2 {M : xv_M} (h : xl_OK M) : xv_P M 92 2 = 93 := xl_p h 92 2 (by decide) (xl_tab_at 96 rfl)
theorem xp_92_3 {M : xv_M} (h : xl_OK M) : xv_P M 92 3 = 94 := xl_p h 92 3 (by decide) (xl_tab_at 97 rfl)
theorem xp_92_4 {M : xv_M} (h : xl_OK M) : xv_P M 92 4 = 95 := xl_p h 92 4 (by decide) (xl_tab_at 98 rfl)
theorem xp_92_5 {M : xv_M} (h : xl_OK M) : xv_P M 92 5 = 96 := xl_p h 92 5 (by decide) (xl_tab_at 99 rfl)
theorem xp_97_1 {M : xv_M} (h : xl_OK M) : xv_P M 97 1 = 98 := xl_p h 97 1 (by decide) (xl_tab_at 100 rfl)
theorem xp_97_2 {M : xv_M} (h : xl_OK M) : xv_P M 97 2 = 105 := xl_p h 97 2 (by decide) (xl_tab_at 101 rfl)
theorem xp_97_3 {M : xv_M} (h : xl_OK M) : xv_P M 97 3 = 120 := xl_p h 97 3 (by decide) (xl_tab_at 102 rfl)
theorem xp_98_2 {M : xv_M} (h : xl_OK M) : xv_P M 98 2 = 99 := xl_p h 98 2 (by decide) (xl_tab_at 103 rfl)
theorem xp_98_3 {M : xv_M} (h : xl_OK M) : xv_P M 98 3 = 100 := xl_p h 98 3 (by decide) (xl_tab_at 104 rfl)
theorem xp_98_4 {M : xv_M} (h : xl_OK M) : xv_P M 98 4 = 101 := xl_p h 98 4 (by decide) (xl_tab_at 105 rfl)
theorem xp_98_5 {M : xv_M} (h : xl_OK M) : xv_P M 98 5 = 102 := xl_p h 98 5 (by decide) (xl_tab_at 106 rfl)
theorem xp_98_6 {M : xv_M} (h : xl_OK M) : xv_P M 98 6 = 103 := xl_p h 98 6 (by decide) (xl_tab_at 107 rfl)
theorem xp_98_7 {M : xv_M} (h : xl_OK M) : xv_P M 98 7 = 104 := xl_p h 98 7 (by decide) (xl_tab_at 108 rfl)
theorem xp_105_1 {M : xv_M} (h : xl_OK M) : xv_P M 105 1 = 106 := xl_p h 105 1 (by decide) (xl_tab_at 109 rfl)
theorem xp_105_2 {M : xv_M} (h : xl_OK M) : xv_P M 105 2 = 107 := xl_p h 105 2 (by decide) (xl_tab_at 110 rfl)
theorem xp_105_3 {M : xv_M} (h : xl_OK M) : xv_P M 105 3 = 108 := xl_p h 105 3 (by decide) (xl_tab_at 111 rfl)
theorem xp_105_4 {M : xv_M} (h : xl_OK M) : xv_P M 105 4 = 109 := xl_p h 105 4 (by decide) (xl_tab_at 112 rfl)
theorem xp_105_5 {M : xv_M} (h : xl_OK M) : xv_P M 105 5 = 110 := xl_p h 105 5 (by decide) (xl_tab_at 113 rfl)
theorem xp_105_6 {M : xv_M} (h : xl_OK M) : xv_P M 105 6 = 111 := xl_p h 105 6 (by decide) (xl_tab_at 114 rfl)
theorem xp_105_7 {M : xv_M} (h : xl_OK M) : xv_P M 105 7 = 112 := xl_p h 105 7 (by decide) (xl_tab_at 115 rfl)
theorem xp_105_8 {M : xv_M} (h : xl_OK M) : xv_P M 105 8 = 113 := xl_p h 105 8 (by decide) (xl_tab_at 116 rfl)
theorem xp_113_0 {M : xv_M} (h : xl_OK M) : xv_P M 113 0 = 114 := xl_p h 113 0 (by decide) (xl_tab_at 117 rfl)
theorem xp_113_1 {M : xv_M} (h : xl_OK M) : xv_P M 113 1 = 115 := xl_p h 113 1 (by decide) (xl_tab_at 118 rfl)
theorem xp_113_2 {M : xv_M} (h : xl_OK M) : xv_P M 113 2 = 116 := xl_p h 113 2 (by decide) (xl_tab_at 119 rfl)
theorem xp_113_3 {M : xv_M} (h : xl_OK M) : xv_P M 113 3 = 117 := xl_p h 113 3 (by decide) (xl_tab_at 120 rfl)
theorem xp_113_4 {M : xv_M} (h : xl_OK M) : xv_P M 113 4 = 118 := xl_p h 113 4 (by decide) (xl_tab_at 121 rfl)
theorem xp_113_5 {M : xv_M} (h : xl_OK M) : xv_P M 113 5 = 119 := xl_p h 113 5 (by decide) (xl_tab_at 122 rfl)
theorem xp_120_2 {M : xv_M} (h : xl_OK M) : xv_P M 120 2 = 121 := xl_p h 120 2 (by decide) (xl_tab_at 123 rfl)
theorem xp_120_3 {M : xv_M} (h : xl_OK M) : xv_P M 120 3 = 122 := xl_p h 120 3 (by decide) (xl_tab_at 124 rfl)
theorem xp_120_4 {M : xv_M} (h : xl_OK M) : xv_P M 120 4 = 123 := xl_p h 120 4 (by decide) (xl_tab_at 125 rfl)
theorem xp_120_5 {M : xv_M} (h : xl_OK M) : xv_P M 120 5 = 124 := xl_p h 120 5 (by decide) (xl_tab_at 126 rfl)
theorem xp_125_1 {M : xv_M} (h : xl_OK M) : xv_P M 125 1 = 126 := xl_p h 125 1 (by decide) (xl_tab_at 127 rfl)
theorem xp_125_2 {M : xv_M} (h : xl_OK M) : xv_P M 125 2 = 133 := xl_p h 125 2 (by decide) (xl_tab_at 128 rfl)
theorem xp_125_3 {M : xv_M} (h : xl_OK M) : xv_P M 125 3 = 148 := xl_p h 125 3 (by decide) (xl_tab_at 129 rfl)
theorem xp_126_2 {M : xv_M} (h : xl_OK M) : xv_P M 126 2 = 127 := xl_p h 126 2 (by decide) (xl_tab_at 130 rfl)
theorem xp_126_3 {M : xv_M} (h : xl_OK M) : xv_P M 126 3 = 128 := xl_p h 126 3 (by decide) (xl_tab_at 131 rfl)
theorem xp_126_4 {M : xv_M} (h : xl_OK M) : xv_P M 126 4 = 129 := xl_p h 126 4 (by decide) (xl_tab_at 132 rfl)
theorem xp_126_5 {M : xv_M} (h : xl_OK M) : xv_P M 126 5 = 130 := xl_p h 126 5 (by decide) (xl_tab_at 133 rfl)
theorem xp_126_6 {M : xv_M} (h : xl_OK M) : xv_P M 126 6 = 131 := xl_p h 126 6 (by decide) (xl_tab_at 134 rfl)
theorem xp_126_7 {M : xv_M} (h : xl_OK M) : xv_P M 126 7 = 132 := xl_p h 126 7 (by decide) (xl_tab_at 135 rfl)
theorem xp_133_1 {M : xv_M} (h : xl_OK M) : xv_P M 133 1 = 134 := xl_p h 133 1 (by decide) (xl_tab_at 136 rfl)
theorem xp_133_2 {M : xv_M} (h : xl_OK M) : xv_P M 133 2 = 135 := xl_p h 133 2 (by decide) (xl_tab_at 137 rfl)
theorem xp_133_3 {M : xv_M} (h : xl_OK M) : xv_P M 133 3 = 136 := xl_p h 133 3 (by decide) (xl_tab_at 138 rfl)
theorem xp_133_4 {M : xv_M} (h : xl_OK M) : xv_P M 133 4 = 137 := xl_p h 133 4 (by decide) (xl_tab_at 139 rfl)
theorem xp_133_5 {M : xv_M} (h : xl_OK M) : xv_P M 133 5 = 138 := xl_p h 133 5 (by decide) (xl_tab_at 140 rfl)
theorem xp_133_6 {M : xv_M} (h : xl_OK M) : xv_P M 133 6 = 139 := xl_p h 133 6 (by decide) (xl_tab_at 141 rfl)
theorem xp_133_7 {M : xv_M} (h : xl_OK M) : xv_P M 133 7 = 140 := xl_p h 133 7 (by decide) (xl_tab_at 142 rfl)
theorem xp_133_8 {M : xv_M} (h : xl_OK M) : xv_P M 133 8 = 141 := xl_p h 133 8 (by decide) (xl_tab_at 143 rfl)
theorem xp_141_0 {M : xv_M} (h : xl_OK M) : xv_P M 141 0 = 142 := xl_p h 141 0 (by decide) (xl_tab_at 144 rfl)
theorem xp_141_1 {M : xv_M} (h : xl_OK M) : xv_P M 141 1 = 143 := xl_p h 141 1 (by decide) (xl_tab_at 145 rfl)
theorem xp_141_2 {M : xv_M} (h : xl_OK M) : xv_P M 141 2 = 144 := xl_p h 141 2 (by decide) (xl_tab_at 146 rfl)
theorem xp_141_3 {M : xv_M} (h : xl_OK M) : xv_P M 141 3 = 145 := xl_p h 141 3 (by decide) (xl_tab_at 147 rfl)
theorem xp_141_4 {M : xv_M} (h : xl_OK M) : xv_P M 141 4 = 146 := xl_p h 141 4 (by decide) (xl_tab_at 148 rfl)
theorem xp_141_5 {M : xv_M} (h : xl_OK M) : xv_P M 141 5 = 147 := xl_p h 141 5 (by decide) (xl_tab_at 149 rfl)
theorem xp_148_2 {M : xv_M} (h : xl_OK M) : xv_P M 148 2 = 149 := xl_p h 148 2 (by decide) (xl_tab_at 150 rfl)
theorem xp_148_3 {M : xv_M} (h : xl_OK M) : xv_P M 148 3 = 150 := xl_p h 148 3 (by decide) (xl_tab_at 151 rfl)
theorem xp_148_4 {M : xv_M} (h : xl_OK M) : xv_P M 148 4 = 151 := xl_p h 148 4 (by decide) (xl_tab_at 152 rfl)
theorem xp_148_5 {M : xv_M} (h : xl_OK M) : xv_P M 148 5 = 152 := xl_p h 148 5 (by decide) (xl_tab_at 153 rfl)
theorem xp_153_1 {M : xv_M} (h : xl_OK M) : xv_P M 153 1 = 154 := xl_p h 153 1 (by decide) (xl_tab_at 154 rfl)
theorem xp_153_2 {M : xv_M} (h : xl_OK M) : xv_P M 153 2 = 161 := xl_p h 153 2 (by decide) (xl_tab_at 155 rfl)
theorem xp_153_3 {M : xv_M} (h : xl_OK M) : xv_P M 153 3 = 176 := xl_p h 153 3 (by decide) (xl_tab_at 156 rfl)
theorem xp_154_2 {M : xv_M} (h : xl_OK M) : xv_P M 154 2 = 155 := xl_p h 154 2 (by decide) (xl_tab_at 157 rfl)
theorem xp_154_3 {M : xv_M} (h : xl_OK M) : xv_P M 154 3 = 156 := xl_p h 154 3 (by decide) (xl_tab_at 158 rfl)
theorem xp_154_4 {M : xv_M} (h : xl_OK M) : xv_P M 154 4 = 157 := xl_p h 154 4 (by decide) (xl_tab_at 159 rfl)
theorem xp_154_5 {M : xv_M} (h : xl_OK M) : xv_P M 154 5 = 158 := xl_p h 154 5 (by decide) (xl_tab_at 160 rfl)
theorem xp_154_6 {M : xv_M} (h : xl_OK M) : xv_P M 154 6 = 159 := xl_p h 154 6 (by decide) (xl_tab_at 161 rfl)
theorem xp_154_7 {M : xv_M} (h : xl_OK M) : xv_P M 154 7 = 160 := xl_p h 154 7 (by decide) (xl_tab_at 162 rfl)
theorem xp_161_1 {M : xv_M} (h : xl_OK M) : xv_P M 161 1 = 162 := xl_p h 161 1 (by decide) (xl_tab_at 163 rfl)
theorem xp_161_2 {M : xv_M} (h : xl_OK M) : xv_P M 161 2 = 163 := xl_p h 161 2 (by decide) (xl_tab_at 164 rfl)
theorem xp_161_3 {M : xv_M} (h : xl_OK M) : xv_P M 161 3 = 164 := xl_p h 161 3 (by decide) (xl_tab_at 165 rfl)
theorem xp_161_4 {M : xv_M} (h : xl_OK M) : xv_P M 161 4 = 165 := xl_p h 161 4 (by decide) (xl_tab_at 166 rfl)
theorem xp_161_5 {M : xv_M} (h : xl_OK M) : xv_P M 161 5 = 166 := xl_p h 161 5 (by decide) (xl_tab_at 167 rfl)
theorem xp_161_6 {M : xv_M} (h : xl_OK M) : xv_P M 161 6 = 167 := xl_p h 161 6 (by decide) (xl_tab_at 168 rfl)
theorem xp_161_7 {M : xv_M} (h : xl_OK M) : xv_P M 161 7 = 168 := xl_p h 161 7 (by decide) (xl_tab_at 169 rfl)
theorem xp_161_8 {M : xv_M} (h : xl_OK M) : xv_P M 161 8 = 169 := xl_p h 161 8 (by decide) (xl_tab_at 170 rfl)
theorem xp_169_0 {M : xv_M} (h : xl_OK M) : xv_P M 169 0 = 170 := xl_p h 169 0 (by decide) (xl_tab_at 171 rfl)
theorem xp_169_1 {M : xv_M} (h : xl_OK M) : xv_P M 169 1 = 171 := xl_p h 169 1 (by decide) (xl_tab_at 172 rfl)
theorem xp_169_2 {M : xv_M} (h : xl_OK M) : xv_P M 169 2 = 172 := xl_p h 169 2 (by decide) (xl_tab_at 173 rfl)
theorem xp_169_3 {M : xv_M} (h : xl_OK M) : xv_P M 169 3 = 173 := xl_p h 169 3 (by decide) (xl_tab_at 174 rfl)
theorem xp_169_4 {M : xv_M} (h : xl_OK M) : xv_P M 169 4 = 174 := xl_p h 169 4 (by decide) (xl_tab_at 175 rfl)
theorem xp_169_5 {M : xv_M} (h : xl_OK M) : xv_P M 169 5 = 175 := xl_p h 169 5 (by decide) (xl_tab_at 176 rfl)
theorem xp_176_2 {M : xv_M} (h : xl_OK M) : xv_P M 176 2 = 177 := xl_p h 176 2 (by decide) (xl_tab_at 177 rfl)
theorem xp_176_3 {M : xv_M} (h : xl_OK M) : xv_P M 176 3 = 178 := xl_p h 176 3 (by decide) (xl_tab_at 178 rfl)
theorem xp_176_4 {M : xv_M} (h : xl_OK M) : xv_P M 176 4 = 179 := xl_p h 176 4 (by decide) (xl_tab_at 179 rfl)
theorem xp_176_5 {M : xv_M} (h : xl_OK M) : xv_P M 176 5 = 180 := xl_p h 176 5 (by decide) (xl_tab_at 180 rfl)
theorem xp_181_1 {M : xv_M} (h : xl_OK M) : xv_P M 181 1 = 182 := xl_p h 181 1 (by decide) (xl_tab_at 181 rfl)
theorem xp_183_1 {M : xv_M} (h : xl_OK M) : xv_P M 183 1 = 184 := xl_p h 183 1 (by decide) (xl_tab_at 182 rfl)
theorem xp_183_2 {M : xv_M} (h : xl_OK M) : xv_P M 183 2 = 185 := xl_p h 183 2 (by decide) (xl_tab_at 183 rfl)
theorem xp_183_3 {M : xv_M} (h : xl_OK M) : xv_P M 183 3 = 186 := xl_p h 183 3 (by decide) (xl_tab_at 184 rfl)
theorem xp_183_4 {M : xv_M} (h : xl_OK M) : xv_P M 183 4 = 187 := xl_p h 183 4 (by decide) (xl_tab_at 185 rfl)
theorem xp_188_0 {M : xv_M} (h : xl_OK M) : xv_P M 188 0 = 189 := xl_p h 188 0 (by decide) (xl_tab_at 186 rfl)
theorem xp_188_1 {M : xv_M} (h : xl_OK M) : xv_P M 188 1 = 190 := xl_p h 188 1 (by decide) (xl_tab_at 187 rfl)
theorem xp_188_3 {M : xv_M} (h : xl_OK M) : xv_P M 188 3 = 191 := xl_p h 188 3 (by decide) (xl_tab_at 188 rfl)
theorem xp_188_6 {M : xv_M} (h : xl_OK M) : xv_P M 188 6 = 192 := xl_p h 188 6 (by decide) (xl_tab_at 189 rfl)
theorem xp_188_15 {M : xv_M} (h : xl_OK M) : xv_P M 188 15 = 193 := xl_p h 188 15 (by decide) (xl_tab_at 190 rfl)
theorem xp_188_16 {M : xv_M} (h : xl_OK M) : xv_P M 188 16 = 194 := xl_p h 188 16 (by decide) (xl_tab_at 191 rfl)
