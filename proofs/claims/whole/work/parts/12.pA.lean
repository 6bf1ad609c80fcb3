/-! the bytecode does that: by program -/
set_option maxRecDepth 100000 in
theorem s_X0_startTallies_L2 {y : LY} {l : Launch} {E : ET} (X : CX y l E cX0_startTallies 2 RX0 (rmd 0)) (Z : ZX E none) (hy : y.1 ≤ (eS E).heap.size) {o : Nat} (ho : 1 ≤ o ∧ o ≤ 11)    (n : Nat) : ∀ (v1 : Int32) (σ : ST), WW y l E 2 (fun a => QM y E (xV a)) 2 [(0, .ref (ad y o)), (1, .int v1)] [] σ (T_X0_startTallies_L2 o n v1 σ) := by
  induction n with
  | zero => intros; exact r_none rfl
  | succ n ih =>
    intro v1 σ
    unfold T_X0_startTallies_L2
    refine r_iload_n (pc := 2) X dX0_startTallies_2 1 rfl rfl ?_
    refine r_iconst (pc := 3) X dX0_startTallies_3 kc_5 ?_
    refine r_icmp_ge (pc := 4) (tgt := 27) X dX0_startTallies_4 (by decide) ?_ ?_
    · refine r_aload_n (pc := 27) X dX0_startTallies_27 0 rfl rfl ?_
      refine r_iconst (pc := 28) X dX0_startTallies_28 kc_0 ?_
      refine r_puti (pc := 29) X dX0_startTallies_29 fl_X0_64 fw_0_17 (oc_st ho) rfl (fun σ1 => ?_)
      refine r_aload_n (pc := 32) X dX0_startTallies_32 0 rfl rfl ?_
      refine r_bipush (pc := 33) X dX0_startTallies_33 kb_m9 ?_
      refine r_puti (pc := 35) X dX0_startTallies_35 fl_X0_67 fw_0_18 (oc_st ho) rfl (fun σ2 => ?_)
      exact r_vret (pc := 38) X Z dX0_startTallies_38 rfl
    · refine r_aload_n (pc := 7) X dX0_startTallies_7 0 rfl rfl ?_
      refine r_geta (pc := 8) X dX0_startTallies_8 fl_X0_58 (oc_st ho) (by decide) ?_
      refine r_iload_n (pc := 11) X dX0_startTallies_11 1 rfl rfl ?_
      refine r_iconst (pc := 12) X dX0_startTallies_12 kc_0 ?_
      refine r_iast (pc := 13) X dX0_startTallies_13 (ar_st ho ar_1_15) (fun σ3 => ?_)
      refine r_aload_n (pc := 14) X dX0_startTallies_14 0 rfl rfl ?_
      refine r_geta (pc := 15) X dX0_startTallies_15 fl_X0_61 (oc_st ho) (by decide) ?_
      refine r_iload_n (pc := 18) X dX0_startTallies_18 1 rfl rfl ?_
      refine r_iconst (pc := 19) X dX0_startTallies_19 kc_0 ?_
      refine r_iast (pc := 20) X dX0_startTallies_20 (ar_st ho ar_1_16) (fun σ4 => ?_)
      refine r_iinc (pc := 21) (lv' := [(0, .ref _)]) X dX0_startTallies_21 1 rfl (congrArg (fun z => v1 + z) kc_1) (by decide) rfl (fun x5 => ?_)
      refine r_goto (pc := 24) (tgt := 2) X dX0_startTallies_24 (by decide) ?_
      refine r_sub [1, 0] rfl ?_
      exact ih x5 σ4

set_option maxRecDepth 100000 in
theorem m_X0_startTallies {y : LY} {l : Launch} {o : Nat} (ho : 1 ≤ o ∧ o ≤ 11)  {σ : ST} {a : ST} (h : T_X0_startTallies o σ = some a) : MU y l yX0_startTallies cX0_startTallies 2 none (rmd 0) [.ref (ad y o)] σ (xV a) := by
  refine MU.of (φ := xV) h (by decide +kernel) rfl (fun E X Z hy => ?_)
  have X : CX y l E cX0_startTallies 2 RX0 (rmd 0) := X
  show WW y l E 2 _ 0 [(0, .ref (ad y o))] [] σ (T_X0_startTallies o σ)
  unfold T_X0_startTallies
  refine r_iconst (pc := 0) X dX0_startTallies_0 kc_0 ?_
  refine r_istore_n (pc := 1) (lv' := [(1, .int _), (0, .ref _)]) X dX0_startTallies_1 rfl (by decide) rfl ?_
  refine r_sub [1, 0] rfl ?_
  exact s_X0_startTallies_L2 X Z hy ho FU 0 σ

set_option maxRecDepth 100000 in
theorem m_X0_copyFrom {y : LY} {l : Launch} {o : Nat} (ho : 1 ≤ o ∧ o ≤ 11) {o0 : Nat} (ho0 : 1 ≤ o0 ∧ o0 ≤ 11)  {σ : ST} {a : ST} (h : T_X0_copyFrom o o0 σ = some a) : MU y l yX0_copyFrom cX0_copyFrom 2 none (rmd 1) [.ref (ad y o), .ref (ad y o0)] σ (xV a) := by
  refine MU.of (φ := xV) h (by decide +kernel) rfl (fun E X Z hy => ?_)
  have X : CX y l E cX0_copyFrom 2 RX0 (rmd 1) := X
  show WW y l E 2 _ 0 [(0, .ref (ad y o)), (1, .ref (ad y o0))] [] σ (T_X0_copyFrom o o0 σ)
  unfold T_X0_copyFrom
  refine r_aload_n (pc := 0) X dX0_copyFrom_0 0 rfl rfl ?_
  refine r_aload_n (pc := 1) X dX0_copyFrom_1 1 rfl rfl ?_
  refine r_geti (pc := 2) X dX0_copyFrom_2 fl_X0_9 (oc_st ho0) rfl (fun x1 => ?_)
  refine r_puti (pc := 5) X dX0_copyFrom_5 fl_X0_9 fw_0_0 (oc_st ho) rfl (fun σ2 => ?_)
  refine r_aload_n (pc := 8) X dX0_copyFrom_8 1 rfl rfl ?_
  refine r_geta (pc := 9) X dX0_copyFrom_9 fl_X0_15 (oc_st ho0) (by decide) ?_
  refine r_iconst (pc := 12) X dX0_copyFrom_12 kc_0 ?_
  refine r_aload_n (pc := 13) X dX0_copyFrom_13 0 rfl rfl ?_
  refine r_geta (pc := 14) X dX0_copyFrom_14 fl_X0_15 (oc_st ho) (by decide) ?_
  refine r_iconst (pc := 17) X dX0_copyFrom_17 kc_0 ?_
  refine r_bipush (pc := 18) X dX0_copyFrom_18 kb_6 ?_
  refine r_copy (pc := 20) X dX0_copyFrom_20 la_X0_70 (ar_st ho0 ar_1_1) (ar_st ho ar_1_1) (by decide) (Nat.le_of_ble_eq_true rfl) (fun σ3 => ?_)
  refine r_aload_n (pc := 23) X dX0_copyFrom_23 1 rfl rfl ?_
  refine r_geta (pc := 24) X dX0_copyFrom_24 fl_X0_19 (oc_st ho0) (by decide) ?_
  refine r_iconst (pc := 27) X dX0_copyFrom_27 kc_0 ?_
  refine r_aload_n (pc := 28) X dX0_copyFrom_28 0 rfl rfl ?_
  refine r_geta (pc := 29) X dX0_copyFrom_29 fl_X0_19 (oc_st ho) (by decide) ?_
  refine r_iconst (pc := 32) X dX0_copyFrom_32 kc_0 ?_
  refine r_bipush (pc := 33) X dX0_copyFrom_33 kb_6 ?_
  refine r_copy (pc := 35) X dX0_copyFrom_35 la_X0_70 (ar_st ho0 ar_1_2) (ar_st ho ar_1_2) (by decide) (Nat.le_of_ble_eq_true rfl) (fun σ4 => ?_)
  refine r_aload_n (pc := 38) X dX0_copyFrom_38 1 rfl rfl ?_
  refine r_geta (pc := 39) X dX0_copyFrom_39 fl_X0_22 (oc_st ho0) (by decide) ?_
  refine r_iconst (pc := 42) X dX0_copyFrom_42 kc_0 ?_
  refine r_aload_n (pc := 43) X dX0_copyFrom_43 0 rfl rfl ?_
  refine r_geta (pc := 44) X dX0_copyFrom_44 fl_X0_22 (oc_st ho) (by decide) ?_
  refine r_iconst (pc := 47) X dX0_copyFrom_47 kc_0 ?_
  refine r_bipush (pc := 48) X dX0_copyFrom_48 kb_6 ?_
  refine r_copy (pc := 50) X dX0_copyFrom_50 la_X0_70 (ar_st ho0 ar_1_3) (ar_st ho ar_1_3) (by decide) (Nat.le_of_ble_eq_true rfl) (fun σ5 => ?_)
  refine r_aload_n (pc := 53) X dX0_copyFrom_53 1 rfl rfl ?_
  refine r_geta (pc := 54) X dX0_copyFrom_54 fl_X0_25 (oc_st ho0) (by decide) ?_
  refine r_iconst (pc := 57) X dX0_copyFrom_57 kc_0 ?_
  refine r_aload_n (pc := 58) X dX0_copyFrom_58 0 rfl rfl ?_
  refine r_geta (pc := 59) X dX0_copyFrom_59 fl_X0_25 (oc_st ho) (by decide) ?_
  refine r_iconst (pc := 62) X dX0_copyFrom_62 kc_0 ?_
  refine r_bipush (pc := 63) X dX0_copyFrom_63 kb_6 ?_
  refine r_copy (pc := 65) X dX0_copyFrom_65 la_X0_70 (ar_st ho0 ar_1_4) (ar_st ho ar_1_4) (by decide) (Nat.le_of_ble_eq_true rfl) (fun σ6 => ?_)
  refine r_aload_n (pc := 68) X dX0_copyFrom_68 1 rfl rfl ?_
  refine r_geta (pc := 69) X dX0_copyFrom_69 fl_X0_28 (oc_st ho0) (by decide) ?_
  refine r_iconst (pc := 72) X dX0_copyFrom_72 kc_0 ?_
  refine r_aload_n (pc := 73) X dX0_copyFrom_73 0 rfl rfl ?_
  refine r_geta (pc := 74) X dX0_copyFrom_74 fl_X0_28 (oc_st ho) (by decide) ?_
  refine r_iconst (pc := 77) X dX0_copyFrom_77 kc_0 ?_
  refine r_bipush (pc := 78) X dX0_copyFrom_78 kb_6 ?_
  refine r_copy (pc := 80) X dX0_copyFrom_80 la_X0_70 (ar_st ho0 ar_1_5) (ar_st ho ar_1_5) (by decide) (Nat.le_of_ble_eq_true rfl) (fun σ7 => ?_)
  refine r_aload_n (pc := 83) X dX0_copyFrom_83 1 rfl rfl ?_
  refine r_geta (pc := 84) X dX0_copyFrom_84 fl_X0_31 (oc_st ho0) (by decide) ?_
  refine r_iconst (pc := 87) X dX0_copyFrom_87 kc_0 ?_
  refine r_aload_n (pc := 88) X dX0_copyFrom_88 0 rfl rfl ?_
  refine r_geta (pc := 89) X dX0_copyFrom_89 fl_X0_31 (oc_st ho) (by decide) ?_
  refine r_iconst (pc := 92) X dX0_copyFrom_92 kc_0 ?_
  refine r_bipush (pc := 93) X dX0_copyFrom_93 kb_6 ?_
  refine r_copy (pc := 95) X dX0_copyFrom_95 la_X0_70 (ar_st ho0 ar_1_6) (ar_st ho ar_1_6) (by decide) (Nat.le_of_ble_eq_true rfl) (fun σ8 => ?_)
  refine r_aload_n (pc := 98) X dX0_copyFrom_98 0 rfl rfl ?_
  refine r_aload_n (pc := 99) X dX0_copyFrom_99 1 rfl rfl ?_
  refine r_geti (pc := 100) X dX0_copyFrom_100 fl_X0_34 (oc_st ho0) rfl (fun x9 => ?_)
  refine r_puti (pc := 103) X dX0_copyFrom_103 fl_X0_34 fw_0_7 (oc_st ho) rfl (fun σ10 => ?_)
  refine r_aload_n (pc := 106) X dX0_copyFrom_106 1 rfl rfl ?_
  refine r_geta (pc := 107) X dX0_copyFrom_107 fl_X0_37 (oc_st ho0) (by decide) ?_
  refine r_iconst (pc := 110) X dX0_copyFrom_110 kc_0 ?_
  refine r_aload_n (pc := 111) X dX0_copyFrom_111 0 rfl rfl ?_
  refine r_geta (pc := 112) X dX0_copyFrom_112 fl_X0_37 (oc_st ho) (by decide) ?_
  refine r_iconst (pc := 115) X dX0_copyFrom_115 kc_0 ?_
  refine r_iconst (pc := 116) X dX0_copyFrom_116 kc_5 ?_
  refine r_copy (pc := 117) X dX0_copyFrom_117 la_X0_70 (ar_st ho0 ar_1_8) (ar_st ho ar_1_8) (by decide) (Nat.le_of_ble_eq_true rfl) (fun σ11 => ?_)
  refine r_aload_n (pc := 120) X dX0_copyFrom_120 1 rfl rfl ?_
  refine r_geta (pc := 121) X dX0_copyFrom_121 fl_X0_40 (oc_st ho0) (by decide) ?_
  refine r_iconst (pc := 124) X dX0_copyFrom_124 kc_0 ?_
  refine r_aload_n (pc := 125) X dX0_copyFrom_125 0 rfl rfl ?_
  refine r_geta (pc := 126) X dX0_copyFrom_126 fl_X0_40 (oc_st ho) (by decide) ?_
  refine r_iconst (pc := 129) X dX0_copyFrom_129 kc_0 ?_
  refine r_iconst (pc := 130) X dX0_copyFrom_130 kc_5 ?_
  refine r_copy (pc := 131) X dX0_copyFrom_131 la_X0_70 (ar_st ho0 ar_1_9) (ar_st ho ar_1_9) (by decide) (Nat.le_of_ble_eq_true rfl) (fun σ12 => ?_)
  refine r_aload_n (pc := 134) X dX0_copyFrom_134 1 rfl rfl ?_
  refine r_geta (pc := 135) X dX0_copyFrom_135 fl_X0_43 (oc_st ho0) (by decide) ?_
  refine r_iconst (pc := 138) X dX0_copyFrom_138 kc_0 ?_
  refine r_aload_n (pc := 139) X dX0_copyFrom_139 0 rfl rfl ?_
  refine r_geta (pc := 140) X dX0_copyFrom_140 fl_X0_43 (oc_st ho) (by decide) ?_
  refine r_iconst (pc := 143) X dX0_copyFrom_143 kc_0 ?_
  refine r_iconst (pc := 144) X dX0_copyFrom_144 kc_5 ?_
  refine r_copy (pc := 145) X dX0_copyFrom_145 la_X0_70 (ar_st ho0 ar_1_10) (ar_st ho ar_1_10) (by decide) (Nat.le_of_ble_eq_true rfl) (fun σ13 => ?_)
  refine r_aload_n (pc := 148) X dX0_copyFrom_148 1 rfl rfl ?_
  refine r_geta (pc := 149) X dX0_copyFrom_149 fl_X0_46 (oc_st ho0) (by decide) ?_
  refine r_iconst (pc := 152) X dX0_copyFrom_152 kc_0 ?_
  refine r_aload_n (pc := 153) X dX0_copyFrom_153 0 rfl rfl ?_
  refine r_geta (pc := 154) X dX0_copyFrom_154 fl_X0_46 (oc_st ho) (by decide) ?_
  refine r_iconst (pc := 157) X dX0_copyFrom_157 kc_0 ?_
  refine r_iconst (pc := 158) X dX0_copyFrom_158 kc_5 ?_
  refine r_copy (pc := 159) X dX0_copyFrom_159 la_X0_70 (ar_st ho0 ar_1_11) (ar_st ho ar_1_11) (by decide) (Nat.le_of_ble_eq_true rfl) (fun σ14 => ?_)
  refine r_aload_n (pc := 162) X dX0_copyFrom_162 1 rfl rfl ?_
  refine r_geta (pc := 163) X dX0_copyFrom_163 fl_X0_49 (oc_st ho0) (by decide) ?_
  refine r_iconst (pc := 166) X dX0_copyFrom_166 kc_0 ?_
  refine r_aload_n (pc := 167) X dX0_copyFrom_167 0 rfl rfl ?_
  refine r_geta (pc := 168) X dX0_copyFrom_168 fl_X0_49 (oc_st ho) (by decide) ?_
  refine r_iconst (pc := 171) X dX0_copyFrom_171 kc_0 ?_
  refine r_iconst (pc := 172) X dX0_copyFrom_172 kc_5 ?_
  refine r_copy (pc := 173) X dX0_copyFrom_173 la_X0_70 (ar_st ho0 ar_1_12) (ar_st ho ar_1_12) (by decide) (Nat.le_of_ble_eq_true rfl) (fun σ15 => ?_)
  refine r_aload_n (pc := 176) X dX0_copyFrom_176 0 rfl rfl ?_
  refine r_aload_n (pc := 177) X dX0_copyFrom_177 1 rfl rfl ?_
  refine r_geti (pc := 178) X dX0_copyFrom_178 fl_X0_52 (oc_st ho0) rfl (fun x16 => ?_)
  refine r_puti (pc := 181) X dX0_copyFrom_181 fl_X0_52 fw_0_13 (oc_st ho) rfl (fun σ17 => ?_)
  refine r_aload_n (pc := 184) X dX0_copyFrom_184 0 rfl rfl ?_
  refine r_aload_n (pc := 185) X dX0_copyFrom_185 1 rfl rfl ?_
  refine r_geti (pc := 186) X dX0_copyFrom_186 fl_X0_55 (oc_st ho0) rfl (fun x18 => ?_)
  refine r_puti (pc := 189) X dX0_copyFrom_189 fl_X0_55 fw_0_14 (oc_st ho) rfl (fun σ19 => ?_)
  refine r_aload_n (pc := 192) X dX0_copyFrom_192 0 rfl rfl ?_
  refine r_callvV (pc := 193) X dX0_copyFrom_193 cf_X0_startTallies ml_X0_76 (rf rfl rfl) hy (oc_st ho).1 (hc_0 ho) (fun b hb => m_X0_startTallies ho hb) rfl rfl (Nat.le_of_ble_eq_true rfl) (fun σ21 => ?_)
  exact r_vret (pc := 196) X Z dX0_copyFrom_196 rfl

set_option maxRecDepth 100000 in
theorem m_X0_hasBag {y : LY} {l : Launch} {o : Nat} (ho : 1 ≤ o ∧ o ≤ 11) {a0 : Int32} {σ : ST} {a : Int32} (h : T_X0_hasBag o σ a0 = some a) : MU y l yX0_hasBag cX0_hasBag 2 (some .boolean) (rmd 0) [.ref (ad y o), .int a0] σ (xp σ a) := by
  refine MU.of (φ := xp σ) h (by decide +kernel) rfl (fun E X Z hy => ?_)
  have X : CX y l E cX0_hasBag 2 RX0 (rmd 0) := X
  show WW y l E 2 _ 0 [(0, .ref (ad y o)), (1, .int a0)] [] σ (T_X0_hasBag o σ a0)
  unfold T_X0_hasBag
  refine r_iload_n (pc := 0) X dX0_hasBag_0 1 rfl rfl ?_
  refine r_if_lt (pc := 1) (tgt := 16) X dX0_hasBag_1 (by decide) ?_ ?_
  · refine r_iconst (pc := 16) X dX0_hasBag_16 kc_0 ?_
    exact r_zret (pc := 17) X Z dX0_hasBag_17 rfl (Or.inl rfl)
  · refine r_iload_n (pc := 4) X dX0_hasBag_4 1 rfl rfl ?_
    refine r_aload_n (pc := 5) X dX0_hasBag_5 0 rfl rfl ?_
    refine r_geti (pc := 6) X dX0_hasBag_6 fl_X0_9 (oc_st ho) rfl (fun x1 => ?_)
    refine r_icmp_ge (pc := 9) (tgt := 16) X dX0_hasBag_9 (by decide) ?_ ?_
    · refine r_iconst (pc := 16) X dX0_hasBag_16 kc_0 ?_
      exact r_zret (pc := 17) X Z dX0_hasBag_17 rfl (Or.inl rfl)
    · refine r_iconst (pc := 12) X dX0_hasBag_12 kc_1 ?_
      refine r_goto (pc := 13) (tgt := 17) X dX0_hasBag_13 (by decide) ?_
      exact r_zret (pc := 17) X Z dX0_hasBag_17 rfl (Or.inr rfl)

set_option maxRecDepth 100000 in
theorem m_X0_hasBearer {y : LY} {l : Launch} {o : Nat} (ho : 1 ≤ o ∧ o ≤ 11) {a0 : Int32} {σ : ST} {a : Int32} (h : T_X0_hasBearer o σ a0 = some a) : MU y l yX0_hasBearer cX0_hasBearer 2 (some .boolean) (rmd 0) [.ref (ad y o), .int a0] σ (xp σ a) := by
  refine MU.of (φ := xp σ) h (by decide +kernel) rfl (fun E X Z hy => ?_)
  have X : CX y l E cX0_hasBearer 2 RX0 (rmd 0) := X
  show WW y l E 2 _ 0 [(0, .ref (ad y o)), (1, .int a0)] [] σ (T_X0_hasBearer o σ a0)
  unfold T_X0_hasBearer
  refine r_iload_n (pc := 0) X dX0_hasBearer_0 1 rfl rfl ?_
  refine r_if_lt (pc := 1) (tgt := 16) X dX0_hasBearer_1 (by decide) ?_ ?_
  · refine r_iconst (pc := 16) X dX0_hasBearer_16 kc_0 ?_
    exact r_zret (pc := 17) X Z dX0_hasBearer_17 rfl (Or.inl rfl)
  · refine r_iload_n (pc := 4) X dX0_hasBearer_4 1 rfl rfl ?_
    refine r_aload_n (pc := 5) X dX0_hasBearer_5 0 rfl rfl ?_
    refine r_geti (pc := 6) X dX0_hasBearer_6 fl_X0_34 (oc_st ho) rfl (fun x1 => ?_)
    refine r_icmp_ge (pc := 9) (tgt := 16) X dX0_hasBearer_9 (by decide) ?_ ?_
    · refine r_iconst (pc := 16) X dX0_hasBearer_16 kc_0 ?_
      exact r_zret (pc := 17) X Z dX0_hasBearer_17 rfl (Or.inl rfl)
    · refine r_iconst (pc := 12) X dX0_hasBearer_12 kc_1 ?_
      refine r_goto (pc := 13) (tgt := 17) X dX0_hasBearer_13 (by decide) ?_
      exact r_zret (pc := 17) X Z dX0_hasBearer_17 rfl (Or.inr rfl)

set_option maxRecDepth 100000 in
theorem m_X0_addBag {y : LY} {l : Launch} {o : Nat} (ho : 1 ≤ o ∧ o ≤ 11) {a0 : Int32} {a1 : Int32} {a2 : Int32} {σ : ST} {a : (Int32 × ST)} (h : T_X0_addBag o a0 a1 a2 σ = some a) : MU y l yX0_addBag cX0_addBag 4 (some .int) (rmd 0) [.ref (ad y o), .int a0, .int a1, .int a2] σ (xI a) := by
  refine MU.of (φ := xI) h (by decide +kernel) rfl (fun E X Z hy => ?_)
  have X : CX y l E cX0_addBag 4 RX0 (rmd 0) := X
  show WW y l E 4 _ 0 [(0, .ref (ad y o)), (1, .int a0), (2, .int a1), (3, .int a2)] [] σ (T_X0_addBag o a0 a1 a2 σ)
  unfold T_X0_addBag
  refine r_aload_n (pc := 0) X dX0_addBag_0 0 rfl rfl ?_
  refine r_geti (pc := 1) X dX0_addBag_1 fl_X0_9 (oc_st ho) rfl (fun x1 => ?_)
  refine r_bipush (pc := 4) X dX0_addBag_4 kb_6 ?_
  refine r_icmp_lt (pc := 6) (tgt := 12) X dX0_addBag_6 (by decide) ?_ ?_
  · refine r_aload_n (pc := 12) X dX0_addBag_12 0 rfl rfl ?_
    refine r_geta (pc := 13) X dX0_addBag_13 fl_X0_15 (oc_st ho) (by decide) ?_
    refine r_aload_n (pc := 16) X dX0_addBag_16 0 rfl rfl ?_
    refine r_geti (pc := 17) X dX0_addBag_17 fl_X0_9 (oc_st ho) rfl (fun x2 => ?_)
    refine r_iload_n (pc := 20) X dX0_addBag_20 1 rfl rfl ?_
    refine r_iast (pc := 21) X dX0_addBag_21 (ar_st ho ar_1_1) (fun σ3 => ?_)
    refine r_aload_n (pc := 22) X dX0_addBag_22 0 rfl rfl ?_
    refine r_geta (pc := 23) X dX0_addBag_23 fl_X0_19 (oc_st ho) (by decide) ?_
    refine r_aload_n (pc := 26) X dX0_addBag_26 0 rfl rfl ?_
    refine r_geti (pc := 27) X dX0_addBag_27 fl_X0_9 (oc_st ho) rfl (fun x4 => ?_)
    refine r_iload_n (pc := 30) X dX0_addBag_30 2 rfl rfl ?_
    refine r_iast (pc := 31) X dX0_addBag_31 (ar_st ho ar_1_2) (fun σ5 => ?_)
    refine r_aload_n (pc := 32) X dX0_addBag_32 0 rfl rfl ?_
    refine r_geta (pc := 33) X dX0_addBag_33 fl_X0_22 (oc_st ho) (by decide) ?_
    refine r_aload_n (pc := 36) X dX0_addBag_36 0 rfl rfl ?_
    refine r_geti (pc := 37) X dX0_addBag_37 fl_X0_9 (oc_st ho) rfl (fun x6 => ?_)
    refine r_iload_n (pc := 40) X dX0_addBag_40 3 rfl rfl ?_
    refine r_iast (pc := 41) X dX0_addBag_41 (ar_st ho ar_1_3) (fun σ7 => ?_)
    refine r_aload_n (pc := 42) X dX0_addBag_42 0 rfl rfl ?_
    refine r_geta (pc := 43) X dX0_addBag_43 fl_X0_25 (oc_st ho) (by decide) ?_
    refine r_aload_n (pc := 46) X dX0_addBag_46 0 rfl rfl ?_
    refine r_geti (pc := 47) X dX0_addBag_47 fl_X0_9 (oc_st ho) rfl (fun x8 => ?_)
    refine r_bipush (pc := 50) X dX0_addBag_50 kb_m9 ?_
    refine r_iast (pc := 52) X dX0_addBag_52 (ar_st ho ar_1_4) (fun σ9 => ?_)
    refine r_aload_n (pc := 53) X dX0_addBag_53 0 rfl rfl ?_
    refine r_geta (pc := 54) X dX0_addBag_54 fl_X0_28 (oc_st ho) (by decide) ?_
    refine r_aload_n (pc := 57) X dX0_addBag_57 0 rfl rfl ?_
    refine r_geti (pc := 58) X dX0_addBag_58 fl_X0_9 (oc_st ho) rfl (fun x10 => ?_)
    refine r_iconst (pc := 61) X dX0_addBag_61 kc_0 ?_
    refine r_iast (pc := 62) X dX0_addBag_62 (ar_st ho ar_1_5) (fun σ11 => ?_)
    refine r_aload_n (pc := 63) X dX0_addBag_63 0 rfl rfl ?_
    refine r_geta (pc := 64) X dX0_addBag_64 fl_X0_31 (oc_st ho) (by decide) ?_
    refine r_aload_n (pc := 67) X dX0_addBag_67 0 rfl rfl ?_
    refine r_geti (pc := 68) X dX0_addBag_68 fl_X0_9 (oc_st ho) rfl (fun x12 => ?_)
    refine r_bipush (pc := 71) X dX0_addBag_71 kb_m9 ?_
    refine r_iast (pc := 73) X dX0_addBag_73 (ar_st ho ar_1_6) (fun σ13 => ?_)
    refine r_aload_n (pc := 74) X dX0_addBag_74 0 rfl rfl ?_
    refine r_dup (pc := 75) X dX0_addBag_75 rfl ?_
    refine r_geti (pc := 76) X dX0_addBag_76 fl_X0_9 (oc_st ho) rfl (fun x14 => ?_)
    refine r_iconst (pc := 79) X dX0_addBag_79 kc_1 ?_
    refine r_iadd (pc := 80) X dX0_addBag_80 ?_
    refine r_puti (pc := 81) X dX0_addBag_81 fl_X0_9 fw_0_0 (oc_st ho) rfl (fun σ15 => ?_)
    refine r_aload_n (pc := 84) X dX0_addBag_84 0 rfl rfl ?_
    refine r_geti (pc := 85) X dX0_addBag_85 fl_X0_9 (oc_st ho) rfl (fun x16 => ?_)
    refine r_iconst (pc := 88) X dX0_addBag_88 kc_1 ?_
    refine r_isub (pc := 89) X dX0_addBag_89 ?_
    exact r_iret (pc := 90) X Z dX0_addBag_90 rfl
  · refine r_bipush (pc := 9) X dX0_addBag_9 kb_m9 ?_
    exact r_iret (pc := 11) X Z dX0_addBag_11 rfl

set_option maxRecDepth 100000 in
theorem m_X0_addBearer {y : LY} {l : Launch} {o : Nat} (ho : 1 ≤ o ∧ o ≤ 11) {a0 : Int32} {a1 : Int32} {a2 : Int32} {σ : ST} {a : (Int32 × ST)} (h : T_X0_addBearer o a0 a1 a2 σ = some a) : MU y l yX0_addBearer cX0_addBearer 4 (some .int) (rmd 0) [.ref (ad y o), .int a0, .int a1, .int a2] σ (xI a) := by
  refine MU.of (φ := xI) h (by decide +kernel) rfl (fun E X Z hy => ?_)
  have X : CX y l E cX0_addBearer 4 RX0 (rmd 0) := X
  show WW y l E 4 _ 0 [(0, .ref (ad y o)), (1, .int a0), (2, .int a1), (3, .int a2)] [] σ (T_X0_addBearer o a0 a1 a2 σ)
  unfold T_X0_addBearer
  refine r_aload_n (pc := 0) X dX0_addBearer_0 0 rfl rfl ?_
  refine r_geti (pc := 1) X dX0_addBearer_1 fl_X0_34 (oc_st ho) rfl (fun x1 => ?_)
  refine r_iconst (pc := 4) X dX0_addBearer_4 kc_5 ?_
  refine r_icmp_lt (pc := 5) (tgt := 11) X dX0_addBearer_5 (by decide) ?_ ?_
  · refine r_aload_n (pc := 11) X dX0_addBearer_11 0 rfl rfl ?_
    refine r_geta (pc := 12) X dX0_addBearer_12 fl_X0_37 (oc_st ho) (by decide) ?_
    refine r_aload_n (pc := 15) X dX0_addBearer_15 0 rfl rfl ?_
    refine r_geti (pc := 16) X dX0_addBearer_16 fl_X0_34 (oc_st ho) rfl (fun x2 => ?_)
    refine r_iload_n (pc := 19) X dX0_addBearer_19 1 rfl rfl ?_
    refine r_iast (pc := 20) X dX0_addBearer_20 (ar_st ho ar_1_8) (fun σ3 => ?_)
    refine r_aload_n (pc := 21) X dX0_addBearer_21 0 rfl rfl ?_
    refine r_geta (pc := 22) X dX0_addBearer_22 fl_X0_40 (oc_st ho) (by decide) ?_
    refine r_aload_n (pc := 25) X dX0_addBearer_25 0 rfl rfl ?_
    refine r_geti (pc := 26) X dX0_addBearer_26 fl_X0_34 (oc_st ho) rfl (fun x4 => ?_)
    refine r_iload_n (pc := 29) X dX0_addBearer_29 2 rfl rfl ?_
    refine r_iast (pc := 30) X dX0_addBearer_30 (ar_st ho ar_1_9) (fun σ5 => ?_)
    refine r_aload_n (pc := 31) X dX0_addBearer_31 0 rfl rfl ?_
    refine r_geta (pc := 32) X dX0_addBearer_32 fl_X0_43 (oc_st ho) (by decide) ?_
    refine r_aload_n (pc := 35) X dX0_addBearer_35 0 rfl rfl ?_
    refine r_geti (pc := 36) X dX0_addBearer_36 fl_X0_34 (oc_st ho) rfl (fun x6 => ?_)
    refine r_iload_n (pc := 39) X dX0_addBearer_39 3 rfl rfl ?_
    refine r_iast (pc := 40) X dX0_addBearer_40 (ar_st ho ar_1_10) (fun σ7 => ?_)
    refine r_aload_n (pc := 41) X dX0_addBearer_41 0 rfl rfl ?_
    refine r_geta (pc := 42) X dX0_addBearer_42 fl_X0_46 (oc_st ho) (by decide) ?_
    refine r_aload_n (pc := 45) X dX0_addBearer_45 0 rfl rfl ?_
    refine r_geti (pc := 46) X dX0_addBearer_46 fl_X0_34 (oc_st ho) rfl (fun x8 => ?_)
    refine r_bipush (pc := 49) X dX0_addBearer_49 kb_m9 ?_
    refine r_iast (pc := 51) X dX0_addBearer_51 (ar_st ho ar_1_11) (fun σ9 => ?_)
    refine r_aload_n (pc := 52) X dX0_addBearer_52 0 rfl rfl ?_
    refine r_geta (pc := 53) X dX0_addBearer_53 fl_X0_49 (oc_st ho) (by decide) ?_
    refine r_aload_n (pc := 56) X dX0_addBearer_56 0 rfl rfl ?_
    refine r_geti (pc := 57) X dX0_addBearer_57 fl_X0_34 (oc_st ho) rfl (fun x10 => ?_)
    refine r_bipush (pc := 60) X dX0_addBearer_60 kb_9 ?_
    refine r_iast (pc := 62) X dX0_addBearer_62 (ar_st ho ar_1_12) (fun σ11 => ?_)
    refine r_aload_n (pc := 63) X dX0_addBearer_63 0 rfl rfl ?_
    refine r_dup (pc := 64) X dX0_addBearer_64 rfl ?_
    refine r_geti (pc := 65) X dX0_addBearer_65 fl_X0_34 (oc_st ho) rfl (fun x12 => ?_)
    refine r_iconst (pc := 68) X dX0_addBearer_68 kc_1 ?_
    refine r_iadd (pc := 69) X dX0_addBearer_69 ?_
    refine r_puti (pc := 70) X dX0_addBearer_70 fl_X0_34 fw_0_7 (oc_st ho) rfl (fun σ13 => ?_)
    refine r_aload_n (pc := 73) X dX0_addBearer_73 0 rfl rfl ?_
    refine r_geti (pc := 74) X dX0_addBearer_74 fl_X0_34 (oc_st ho) rfl (fun x14 => ?_)
    refine r_iconst (pc := 77) X dX0_addBearer_77 kc_1 ?_
    refine r_isub (pc := 78) X dX0_addBearer_78 ?_
    exact r_iret (pc := 79) X Z dX0_addBearer_79 rfl
  · refine r_bipush (pc := 8) X dX0_addBearer_8 kb_m9 ?_
    exact r_iret (pc := 10) X Z dX0_addBearer_10 rfl

set_option maxRecDepth 100000 in
theorem s_X0_hand_j70 {y : LY} {l : Launch} {E : ET} (X : CX y l E cX0_hand 3 RX0 (rmd 1)) (Z : ZX E (some .boolean)) (hy : y.1 ≤ (eS E).heap.size) {o : Nat} (ho : 1 ≤ o ∧ o ≤ 11)    (v1 : Int32) (v2 : Int32) (σ : ST) : WW y l E 3 (fun a => QM y E (xI a)) 70 [(0, .ref (ad y o)), (1, .int v1), (2, .int v2)] [] σ (T_X0_hand_j70 o  v1 v2 σ) := by
  unfold T_X0_hand_j70
  refine r_aload_n (pc := 70) X dX0_hand_70 0 rfl rfl ?_
  refine r_geta (pc := 71) X dX0_hand_71 fl_X0_46 (oc_st ho) (by decide) ?_
  refine r_iload_n (pc := 74) X dX0_hand_74 2 rfl rfl ?_
  refine r_iload_n (pc := 75) X dX0_hand_75 1 rfl rfl ?_
  refine r_iast (pc := 76) X dX0_hand_76 (ar_st ho ar_1_11) (fun σ1 => ?_)
  refine r_aload_n (pc := 77) X dX0_hand_77 0 rfl rfl ?_
  refine r_geta (pc := 78) X dX0_hand_78 fl_X0_31 (oc_st ho) (by decide) ?_
  refine r_iload_n (pc := 81) X dX0_hand_81 1 rfl rfl ?_
  refine r_iload_n (pc := 82) X dX0_hand_82 2 rfl rfl ?_
  refine r_iast (pc := 83) X dX0_hand_83 (ar_st ho ar_1_6) (fun σ2 => ?_)
  refine r_aload_n (pc := 84) X dX0_hand_84 0 rfl rfl ?_
  refine r_geta (pc := 85) X dX0_hand_85 fl_X0_28 (oc_st ho) (by decide) ?_
  refine r_iload_n (pc := 88) X dX0_hand_88 1 rfl rfl ?_
  refine r_iconst (pc := 89) X dX0_hand_89 kc_0 ?_
  refine r_iast (pc := 90) X dX0_hand_90 (ar_st ho ar_1_5) (fun σ3 => ?_)
  refine r_iconst (pc := 91) X dX0_hand_91 kc_1 ?_
  exact r_zret (pc := 92) X Z dX0_hand_92 rfl (Or.inr rfl)

set_option maxRecDepth 100000 in
theorem s_X0_hand_j44 {y : LY} {l : Launch} {E : ET} (X : CX y l E cX0_hand 3 RX0 (rmd 1)) (Z : ZX E (some .boolean)) (hy : y.1 ≤ (eS E).heap.size) {o : Nat} (ho : 1 ≤ o ∧ o ≤ 11)    (v1 : Int32) (v2 : Int32) (σ : ST) : WW y l E 3 (fun a => QM y E (xI a)) 44 [(0, .ref (ad y o)), (1, .int v1), (2, .int v2)] [] σ (T_X0_hand_j44 o  v1 v2 σ) := by
  unfold T_X0_hand_j44
  refine r_aload_n (pc := 44) X dX0_hand_44 0 rfl rfl ?_
  refine r_aload_n (pc := 45) X dX0_hand_45 0 rfl rfl ?_
  refine r_geta (pc := 46) X dX0_hand_46 fl_X0_46 (oc_st ho) (by decide) ?_
  refine r_iload_n (pc := 49) X dX0_hand_49 2 rfl rfl ?_
  refine r_iald (pc := 50) X dX0_hand_50 (ar_st ho ar_1_11) (fun x1 => ?_)
  refine r_callvp (pc := 51) X dX0_hand_51 cf_X0_hasBag ml_X0_79 (rf rfl rfl) hy (oc_st ho).1 (hc_0 ho) (fun b hb => m_X0_hasBag ho hb) rfl rfl (Nat.le_of_ble_eq_true rfl) (fun x2 => ?_)
  refine r_if_eq (pc := 54) (tgt := 70) X dX0_hand_54 (by decide) ?_ ?_
  · exact s_X0_hand_j70 X Z hy ho v1 v2 σ
  · refine r_aload_n (pc := 57) X dX0_hand_57 0 rfl rfl ?_
    refine r_geta (pc := 58) X dX0_hand_58 fl_X0_31 (oc_st ho) (by decide) ?_
    refine r_aload_n (pc := 61) X dX0_hand_61 0 rfl rfl ?_
    refine r_geta (pc := 62) X dX0_hand_62 fl_X0_46 (oc_st ho) (by decide) ?_
    refine r_iload_n (pc := 65) X dX0_hand_65 2 rfl rfl ?_
    refine r_iald (pc := 66) X dX0_hand_66 (ar_st ho ar_1_11) (fun x4 => ?_)
    refine r_bipush (pc := 67) X dX0_hand_67 kb_m9 ?_
    refine r_iast (pc := 69) X dX0_hand_69 (ar_st ho ar_1_6) (fun σ5 => ?_)
    exact s_X0_hand_j70 X Z hy ho v1 v2 σ5

set_option maxRecDepth 100000 in
theorem m_X0_hand {y : LY} {l : Launch} {o : Nat} (ho : 1 ≤ o ∧ o ≤ 11) {a0 : Int32} {a1 : Int32} {σ : ST} {a : (Int32 × ST)} (h : T_X0_hand o a0 a1 σ = some a) : MU y l yX0_hand cX0_hand 3 (some .boolean) (rmd 1) [.ref (ad y o), .int a0, .int a1] σ (xI a) := by
  refine MU.of (φ := xI) h (by decide +kernel) rfl (fun E X Z hy => ?_)
  have X : CX y l E cX0_hand 3 RX0 (rmd 1) := X
  show WW y l E 3 _ 0 [(0, .ref (ad y o)), (1, .int a0), (2, .int a1)] [] σ (T_X0_hand o a0 a1 σ)
  unfold T_X0_hand
  refine r_aload_n (pc := 0) X dX0_hand_0 0 rfl rfl ?_
  refine r_iload_n (pc := 1) X dX0_hand_1 1 rfl rfl ?_
  refine r_callvp (pc := 2) X dX0_hand_2 cf_X0_hasBag ml_X0_79 (rf rfl rfl) hy (oc_st ho).1 (hc_0 ho) (fun b hb => m_X0_hasBag ho hb) rfl rfl (Nat.le_of_ble_eq_true rfl) (fun x1 => ?_)
  refine r_if_eq (pc := 5) (tgt := 16) X dX0_hand_5 (by decide) ?_ ?_
  · refine r_iconst (pc := 16) X dX0_hand_16 kc_0 ?_
    exact r_zret (pc := 17) X Z dX0_hand_17 rfl (Or.inl rfl)
  · refine r_aload_n (pc := 8) X dX0_hand_8 0 rfl rfl ?_
    refine r_iload_n (pc := 9) X dX0_hand_9 2 rfl rfl ?_
    refine r_callvp (pc := 10) X dX0_hand_10 cf_X0_hasBearer ml_X0_83 (rf rfl rfl) hy (oc_st ho).1 (hc_0 ho) (fun b hb => m_X0_hasBearer ho hb) rfl rfl (Nat.le_of_ble_eq_true rfl) (fun x3 => ?_)
    refine r_if_ne (pc := 13) (tgt := 18) X dX0_hand_13 (by decide) ?_ ?_
    · refine r_aload_n (pc := 18) X dX0_hand_18 0 rfl rfl ?_
      refine r_aload_n (pc := 19) X dX0_hand_19 0 rfl rfl ?_
      refine r_geta (pc := 20) X dX0_hand_20 fl_X0_31 (oc_st ho) (by decide) ?_
      refine r_iload_n (pc := 23) X dX0_hand_23 1 rfl rfl ?_
      refine r_iald (pc := 24) X dX0_hand_24 (ar_st ho ar_1_6) (fun x5 => ?_)
      refine r_callvp (pc := 25) X dX0_hand_25 cf_X0_hasBearer ml_X0_83 (rf rfl rfl) hy (oc_st ho).1 (hc_0 ho) (fun b hb => m_X0_hasBearer ho hb) rfl rfl (Nat.le_of_ble_eq_true rfl) (fun x6 => ?_)
      refine r_if_eq (pc := 28) (tgt := 44) X dX0_hand_28 (by decide) ?_ ?_
      · exact s_X0_hand_j44 X Z hy ho a0 a1 σ
      · refine r_aload_n (pc := 31) X dX0_hand_31 0 rfl rfl ?_
        refine r_geta (pc := 32) X dX0_hand_32 fl_X0_46 (oc_st ho) (by decide) ?_
        refine r_aload_n (pc := 35) X dX0_hand_35 0 rfl rfl ?_
        refine r_geta (pc := 36) X dX0_hand_36 fl_X0_31 (oc_st ho) (by decide) ?_
        refine r_iload_n (pc := 39) X dX0_hand_39 1 rfl rfl ?_
        refine r_iald (pc := 40) X dX0_hand_40 (ar_st ho ar_1_6) (fun x8 => ?_)
        refine r_bipush (pc := 41) X dX0_hand_41 kb_m9 ?_
        refine r_iast (pc := 43) X dX0_hand_43 (ar_st ho ar_1_11) (fun σ9 => ?_)
        exact s_X0_hand_j44 X Z hy ho a0 a1 σ9
    · refine r_iconst (pc := 16) X dX0_hand_16 kc_0 ?_
      exact r_zret (pc := 17) X Z dX0_hand_17 rfl (Or.inl rfl)

set_option maxRecDepth 100000 in
theorem s_X0_unfriend_j26 {y : LY} {l : Launch} {E : ET} (X : CX y l E cX0_unfriend 2 RX0 (rmd 1)) (Z : ZX E none) (hy : y.1 ≤ (eS E).heap.size) {o : Nat} (ho : 1 ≤ o ∧ o ≤ 11)    (v1 : Int32) (σ : ST) : WW y l E 2 (fun a => QM y E (xV a)) 26 [(0, .ref (ad y o)), (1, .int v1)] [] σ (T_X0_unfriend_j26 o  v1 σ) := by
  unfold T_X0_unfriend_j26
  refine r_aload_n (pc := 26) X dX0_unfriend_26 0 rfl rfl ?_
  refine r_geta (pc := 27) X dX0_unfriend_27 fl_X0_25 (oc_st ho) (by decide) ?_
  refine r_iload_n (pc := 30) X dX0_unfriend_30 1 rfl rfl ?_
  refine r_bipush (pc := 31) X dX0_unfriend_31 kb_m9 ?_
  refine r_iast (pc := 33) X dX0_unfriend_33 (ar_st ho ar_1_4) (fun σ1 => ?_)
  exact r_vret (pc := 34) X Z dX0_unfriend_34 rfl

set_option maxRecDepth 100000 in
theorem m_X0_unfriend {y : LY} {l : Launch} {o : Nat} (ho : 1 ≤ o ∧ o ≤ 11) {a0 : Int32} {σ : ST} {a : ST} (h : T_X0_unfriend o a0 σ = some a) : MU y l yX0_unfriend cX0_unfriend 2 none (rmd 1) [.ref (ad y o), .int a0] σ (xV a) := by
  refine MU.of (φ := xV) h (by decide +kernel) rfl (fun E X Z hy => ?_)
  have X : CX y l E cX0_unfriend 2 RX0 (rmd 1) := X
  show WW y l E 2 _ 0 [(0, .ref (ad y o)), (1, .int a0)] [] σ (T_X0_unfriend o a0 σ)
  unfold T_X0_unfriend
  refine r_aload_n (pc := 0) X dX0_unfriend_0 0 rfl rfl ?_
  refine r_aload_n (pc := 1) X dX0_unfriend_1 0 rfl rfl ?_
  refine r_geta (pc := 2) X dX0_unfriend_2 fl_X0_25 (oc_st ho) (by decide) ?_
  refine r_iload_n (pc := 5) X dX0_unfriend_5 1 rfl rfl ?_
  refine r_iald (pc := 6) X dX0_unfriend_6 (ar_st ho ar_1_4) (fun x1 => ?_)
  refine r_callvp (pc := 7) X dX0_unfriend_7 cf_X0_hasBag ml_X0_79 (rf rfl rfl) hy (oc_st ho).1 (hc_0 ho) (fun b hb => m_X0_hasBag ho hb) rfl rfl (Nat.le_of_ble_eq_true rfl) (fun x2 => ?_)
  refine r_if_eq (pc := 10) (tgt := 26) X dX0_unfriend_10 (by decide) ?_ ?_
  · exact s_X0_unfriend_j26 X Z hy ho a0 σ
  · refine r_aload_n (pc := 13) X dX0_unfriend_13 0 rfl rfl ?_
    refine r_geta (pc := 14) X dX0_unfriend_14 fl_X0_25 (oc_st ho) (by decide) ?_
    refine r_aload_n (pc := 17) X dX0_unfriend_17 0 rfl rfl ?_
    refine r_geta (pc := 18) X dX0_unfriend_18 fl_X0_25 (oc_st ho) (by decide) ?_
    refine r_iload_n (pc := 21) X dX0_unfriend_21 1 rfl rfl ?_
    refine r_iald (pc := 22) X dX0_unfriend_22 (ar_st ho ar_1_4) (fun x4 => ?_)
    refine r_bipush (pc := 23) X dX0_unfriend_23 kb_m9 ?_
    refine r_iast (pc := 25) X dX0_unfriend_25 (ar_st ho ar_1_4) (fun σ5 => ?_)
    exact s_X0_unfriend_j26 X Z hy ho a0 σ5

set_option maxRecDepth 100000 in
theorem m_X0_befriend {y : LY} {l : Launch} {o : Nat} (ho : 1 ≤ o ∧ o ≤ 11) {a0 : Int32} {a1 : Int32} {σ : ST} {a : (Int32 × ST)} (h : T_X0_befriend o a0 a1 σ = some a) : MU y l yX0_befriend cX0_befriend 3 (some .boolean) (rmd 2) [.ref (ad y o), .int a0, .int a1] σ (xI a) := by
  refine MU.of (φ := xI) h (by decide +kernel) rfl (fun E X Z hy => ?_)
  have X : CX y l E cX0_befriend 3 RX0 (rmd 2) := X
  show WW y l E 3 _ 0 [(0, .ref (ad y o)), (1, .int a0), (2, .int a1)] [] σ (T_X0_befriend o a0 a1 σ)
  unfold T_X0_befriend
  refine r_aload_n (pc := 0) X dX0_befriend_0 0 rfl rfl ?_
  refine r_iload_n (pc := 1) X dX0_befriend_1 1 rfl rfl ?_
  refine r_callvp (pc := 2) X dX0_befriend_2 cf_X0_hasBag ml_X0_79 (rf rfl rfl) hy (oc_st ho).1 (hc_0 ho) (fun b hb => m_X0_hasBag ho hb) rfl rfl (Nat.le_of_ble_eq_true rfl) (fun x1 => ?_)
  refine r_if_eq (pc := 5) (tgt := 16) X dX0_befriend_5 (by decide) ?_ ?_
  · refine r_iconst (pc := 16) X dX0_befriend_16 kc_0 ?_
    exact r_zret (pc := 17) X Z dX0_befriend_17 rfl (Or.inl rfl)
  · refine r_aload_n (pc := 8) X dX0_befriend_8 0 rfl rfl ?_
    refine r_iload_n (pc := 9) X dX0_befriend_9 2 rfl rfl ?_
    refine r_callvp (pc := 10) X dX0_befriend_10 cf_X0_hasBag ml_X0_79 (rf rfl rfl) hy (oc_st ho).1 (hc_0 ho) (fun b hb => m_X0_hasBag ho hb) rfl rfl (Nat.le_of_ble_eq_true rfl) (fun x3 => ?_)
    refine r_if_ne (pc := 13) (tgt := 18) X dX0_befriend_13 (by decide) ?_ ?_
    · refine r_aload_n (pc := 18) X dX0_befriend_18 0 rfl rfl ?_
      refine r_iload_n (pc := 19) X dX0_befriend_19 1 rfl rfl ?_
      refine r_callvV (pc := 20) X dX0_befriend_20 cf_X0_unfriend ml_X0_86 (rf rfl rfl) hy (oc_st ho).1 (hc_0 ho) (fun b hb => m_X0_unfriend ho hb) rfl rfl (Nat.le_of_ble_eq_true rfl) (fun σ6 => ?_)
      refine r_aload_n (pc := 23) X dX0_befriend_23 0 rfl rfl ?_
      refine r_iload_n (pc := 24) X dX0_befriend_24 2 rfl rfl ?_
      refine r_callvV (pc := 25) X dX0_befriend_25 cf_X0_unfriend ml_X0_86 (rf rfl rfl) hy (oc_st ho).1 (hc_0 ho) (fun b hb => m_X0_unfriend ho hb) rfl rfl (Nat.le_of_ble_eq_true rfl) (fun σ8 => ?_)
      refine r_iload_n (pc := 28) X dX0_befriend_28 1 rfl rfl ?_
      refine r_iload_n (pc := 29) X dX0_befriend_29 2 rfl rfl ?_
      refine r_icmp_eq (pc := 30) (tgt := 47) X dX0_befriend_30 (by decide) ?_ ?_
      · refine r_iconst (pc := 47) X dX0_befriend_47 kc_1 ?_
        exact r_zret (pc := 48) X Z dX0_befriend_48 rfl (Or.inr rfl)
      · refine r_aload_n (pc := 33) X dX0_befriend_33 0 rfl rfl ?_
        refine r_geta (pc := 34) X dX0_befriend_34 fl_X0_25 (oc_st ho) (by decide) ?_
        refine r_iload_n (pc := 37) X dX0_befriend_37 1 rfl rfl ?_
        refine r_iload_n (pc := 38) X dX0_befriend_38 2 rfl rfl ?_
        refine r_iast (pc := 39) X dX0_befriend_39 (ar_st ho ar_1_4) (fun σ9 => ?_)
        refine r_aload_n (pc := 40) X dX0_befriend_40 0 rfl rfl ?_
        refine r_geta (pc := 41) X dX0_befriend_41 fl_X0_25 (oc_st ho) (by decide) ?_
        refine r_iload_n (pc := 44) X dX0_befriend_44 2 rfl rfl ?_
        refine r_iload_n (pc := 45) X dX0_befriend_45 1 rfl rfl ?_
        refine r_iast (pc := 46) X dX0_befriend_46 (ar_st ho ar_1_4) (fun σ10 => ?_)
        refine r_iconst (pc := 47) X dX0_befriend_47 kc_1 ?_
        exact r_zret (pc := 48) X Z dX0_befriend_48 rfl (Or.inr rfl)
    · refine r_iconst (pc := 16) X dX0_befriend_16 kc_0 ?_
      exact r_zret (pc := 17) X Z dX0_befriend_17 rfl (Or.inl rfl)

set_option maxRecDepth 100000 in
theorem m_X0_startKeeping {y : LY} {l : Launch} {o : Nat} (ho : 1 ≤ o ∧ o ≤ 11) {a0 : Int32} {σ : ST} {a : ST} (h : T_X0_startKeeping o a0 σ = some a) : MU y l yX0_startKeeping cX0_startKeeping 3 none (rmd 1) [.ref (ad y o), .int a0] σ (xV a) := by
  refine MU.of (φ := xV) h (by decide +kernel) rfl (fun E X Z hy => ?_)
  have X : CX y l E cX0_startKeeping 3 RX0 (rmd 1) := X
  show WW y l E 3 _ 0 [(0, .ref (ad y o)), (1, .int a0)] [] σ (T_X0_startKeeping o a0 σ)
  unfold T_X0_startKeeping
  refine r_aload_n (pc := 0) X dX0_startKeeping_0 0 rfl rfl ?_
  refine r_geta (pc := 1) X dX0_startKeeping_1 fl_X0_46 (oc_st ho) (by decide) ?_
  refine r_iload_n (pc := 4) X dX0_startKeeping_4 1 rfl rfl ?_
  refine r_iald (pc := 5) X dX0_startKeeping_5 (ar_st ho ar_1_11) (fun x1 => ?_)
  refine r_istore_n (pc := 6) (lv' := [(2, .int _), (0, .ref _), (1, .int _)]) X dX0_startKeeping_6 rfl (by decide) rfl ?_
  refine r_aload_n (pc := 7) X dX0_startKeeping_7 1 rfl rfl ?_
  refine r_iload_n (pc := 8) X dX0_startKeeping_8 0 rfl rfl ?_
  refine r_callvp (pc := 9) X dX0_startKeeping_9 cf_X0_hasBag ml_X0_79 (rf rfl rfl) hy (oc_st ho).1 (hc_0 ho) (fun b hb => m_X0_hasBag ho hb) rfl rfl (Nat.le_of_ble_eq_true rfl) (fun x2 => ?_)
  refine r_if_eq (pc := 12) (tgt := 29) X dX0_startKeeping_12 (by decide) ?_ ?_
  · exact r_vret (pc := 29) X Z dX0_startKeeping_29 rfl
  · refine r_aload_n (pc := 15) X dX0_startKeeping_15 1 rfl rfl ?_
    refine r_geta (pc := 16) X dX0_startKeeping_16 fl_X0_31 (oc_st ho) (by decide) ?_
    refine r_iload_n (pc := 19) X dX0_startKeeping_19 0 rfl rfl ?_
    refine r_iload_n (pc := 20) X dX0_startKeeping_20 2 rfl rfl ?_
    refine r_iast (pc := 21) X dX0_startKeeping_21 (ar_st ho ar_1_6) (fun σ4 => ?_)
    refine r_aload_n (pc := 22) X dX0_startKeeping_22 1 rfl rfl ?_
    refine r_geta (pc := 23) X dX0_startKeeping_23 fl_X0_28 (oc_st ho) (by decide) ?_
    refine r_iload_n (pc := 26) X dX0_startKeeping_26 0 rfl rfl ?_
    refine r_iconst (pc := 27) X dX0_startKeeping_27 kc_0 ?_
    refine r_iast (pc := 28) X dX0_startKeeping_28 (ar_st ho ar_1_5) (fun σ5 => ?_)
    exact r_vret (pc := 29) X Z dX0_startKeeping_29 rfl

set_option maxRecDepth 100000 in
theorem m_X0_changeBags {y : LY} {l : Launch} {o : Nat} (ho : 1 ≤ o ∧ o ≤ 11) {a0 : Int32} {a1 : Int32} {σ : ST} {a : ST} (h : T_X0_changeBags o a0 a1 σ = some a) : MU y l yX0_changeBags cX0_changeBags 4 none (rmd 2) [.ref (ad y o), .int a0, .int a1] σ (xV a) := by
  refine MU.of (φ := xV) h (by decide +kernel) rfl (fun E X Z hy => ?_)
  have X : CX y l E cX0_changeBags 4 RX0 (rmd 2) := X
  show WW y l E 4 _ 0 [(0, .ref (ad y o)), (1, .int a0), (2, .int a1)] [] σ (T_X0_changeBags o a0 a1 σ)
  unfold T_X0_changeBags
  refine r_aload_n (pc := 0) X dX0_changeBags_0 0 rfl rfl ?_
  refine r_geta (pc := 1) X dX0_changeBags_1 fl_X0_46 (oc_st ho) (by decide) ?_
  refine r_iload_n (pc := 4) X dX0_changeBags_4 1 rfl rfl ?_
  refine r_iald (pc := 5) X dX0_changeBags_5 (ar_st ho ar_1_11) (fun x1 => ?_)
  refine r_istore_n (pc := 6) (lv' := [(3, .int _), (0, .ref _), (1, .int _), (2, .int _)]) X dX0_changeBags_6 rfl (by decide) rfl ?_
  refine r_aload_n (pc := 7) X dX0_changeBags_7 1 rfl rfl ?_
  refine r_geta (pc := 8) X dX0_changeBags_8 fl_X0_46 (oc_st ho) (by decide) ?_
  refine r_iload_n (pc := 11) X dX0_changeBags_11 2 rfl rfl ?_
  refine r_aload_n (pc := 12) X dX0_changeBags_12 1 rfl rfl ?_
  refine r_geta (pc := 13) X dX0_changeBags_13 fl_X0_46 (oc_st ho) (by decide) ?_
  refine r_iload_n (pc := 16) X dX0_changeBags_16 3 rfl rfl ?_
  refine r_iald (pc := 17) X dX0_changeBags_17 (ar_st ho ar_1_11) (fun x2 => ?_)
  refine r_iast (pc := 18) X dX0_changeBags_18 (ar_st ho ar_1_11) (fun σ3 => ?_)
  refine r_aload_n (pc := 19) X dX0_changeBags_19 1 rfl rfl ?_
  refine r_geta (pc := 20) X dX0_changeBags_20 fl_X0_46 (oc_st ho) (by decide) ?_
  refine r_iload_n (pc := 23) X dX0_changeBags_23 3 rfl rfl ?_
  refine r_iload_n (pc := 24) X dX0_changeBags_24 0 rfl rfl ?_
  refine r_iast (pc := 25) X dX0_changeBags_25 (ar_st ho ar_1_11) (fun σ4 => ?_)
  refine r_aload_n (pc := 26) X dX0_changeBags_26 1 rfl rfl ?_
  refine r_iload_n (pc := 27) X dX0_changeBags_27 2 rfl rfl ?_
  refine r_callvV (pc := 28) X dX0_changeBags_28 cf_X0_startKeeping ml_X0_90 (rf rfl rfl) hy (oc_st ho).1 (hc_0 ho) (fun b hb => m_X0_startKeeping ho hb) rfl rfl (Nat.le_of_ble_eq_true rfl) (fun σ6 => ?_)
  refine r_aload_n (pc := 31) X dX0_changeBags_31 1 rfl rfl ?_
  refine r_iload_n (pc := 32) X dX0_changeBags_32 3 rfl rfl ?_
  refine r_callvV (pc := 33) X dX0_changeBags_33 cf_X0_startKeeping ml_X0_90 (rf rfl rfl) hy (oc_st ho).1 (hc_0 ho) (fun b hb => m_X0_startKeeping ho hb) rfl rfl (Nat.le_of_ble_eq_true rfl) (fun σ8 => ?_)
  exact r_vret (pc := 36) X Z dX0_changeBags_36 rfl

set_option maxRecDepth 100000 in
theorem s_X0_takeAllBags_L26 {y : LY} {l : Launch} {E : ET} (X : CX y l E cX0_takeAllBags 2 RX0 (rmd 0)) (Z : ZX E none) (hy : y.1 ≤ (eS E).heap.size) {o : Nat} (ho : 1 ≤ o ∧ o ≤ 11)    (n : Nat) : ∀ (v1 : Int32) (σ : ST), WW y l E 2 (fun a => QM y E (xV a)) 26 [(0, .ref (ad y o)), (1, .int v1)] [] σ (T_X0_takeAllBags_L26 o n v1 σ) := by
  induction n with
  | zero => intros; exact r_none rfl
  | succ n ih =>
    intro v1 σ
    unfold T_X0_takeAllBags_L26
    refine r_iload_n (pc := 26) X dX0_takeAllBags_26 1 rfl rfl ?_
    refine r_aload_n (pc := 27) X dX0_takeAllBags_27 0 rfl rfl ?_
    refine r_geti (pc := 28) X dX0_takeAllBags_28 fl_X0_9 (oc_st ho) rfl (fun x1 => ?_)
    refine r_icmp_ge (pc := 31) (tgt := 55) X dX0_takeAllBags_31 (by decide) ?_ ?_
    · exact r_vret (pc := 55) X Z dX0_takeAllBags_55 rfl
    · refine r_aload_n (pc := 34) X dX0_takeAllBags_34 0 rfl rfl ?_
      refine r_geta (pc := 35) X dX0_takeAllBags_35 fl_X0_31 (oc_st ho) (by decide) ?_
      refine r_iload_n (pc := 38) X dX0_takeAllBags_38 1 rfl rfl ?_
      refine r_bipush (pc := 39) X dX0_takeAllBags_39 kb_m9 ?_
      refine r_iast (pc := 41) X dX0_takeAllBags_41 (ar_st ho ar_1_6) (fun σ2 => ?_)
      refine r_aload_n (pc := 42) X dX0_takeAllBags_42 0 rfl rfl ?_
      refine r_geta (pc := 43) X dX0_takeAllBags_43 fl_X0_28 (oc_st ho) (by decide) ?_
      refine r_iload_n (pc := 46) X dX0_takeAllBags_46 1 rfl rfl ?_
      refine r_iconst (pc := 47) X dX0_takeAllBags_47 kc_0 ?_
      refine r_iast (pc := 48) X dX0_takeAllBags_48 (ar_st ho ar_1_5) (fun σ3 => ?_)
      refine r_iinc (pc := 49) (lv' := [(0, .ref _)]) X dX0_takeAllBags_49 1 rfl (congrArg (fun z => v1 + z) kc_1) (by decide) rfl (fun x4 => ?_)
      refine r_goto (pc := 52) (tgt := 26) X dX0_takeAllBags_52 (by decide) ?_
      refine r_sub [1, 0] rfl ?_
      exact ih x4 σ3

set_option maxRecDepth 100000 in
theorem s_X0_takeAllBags_L2 {y : LY} {l : Launch} {E : ET} (X : CX y l E cX0_takeAllBags 2 RX0 (rmd 0)) (Z : ZX E none) (hy : y.1 ≤ (eS E).heap.size) {o : Nat} (ho : 1 ≤ o ∧ o ≤ 11)    (n : Nat) : ∀ (v1 : Int32) (σ : ST), WW y l E 2 (fun a => QM y E (xV a)) 2 [(0, .ref (ad y o)), (1, .int v1)] [] σ (T_X0_takeAllBags_L2 o n v1 σ) := by
  induction n with
  | zero => intros; exact r_none rfl
  | succ n ih =>
    intro v1 σ
    unfold T_X0_takeAllBags_L2
    refine r_iload_n (pc := 2) X dX0_takeAllBags_2 1 rfl rfl ?_
    refine r_aload_n (pc := 3) X dX0_takeAllBags_3 0 rfl rfl ?_
    refine r_geti (pc := 4) X dX0_takeAllBags_4 fl_X0_34 (oc_st ho) rfl (fun x1 => ?_)
    refine r_icmp_ge (pc := 7) (tgt := 24) X dX0_takeAllBags_7 (by decide) ?_ ?_
    · refine r_iconst (pc := 24) X dX0_takeAllBags_24 kc_0 ?_
      refine r_istore_n (pc := 25) (lv' := [(1, .int _), (0, .ref _)]) X dX0_takeAllBags_25 rfl (by decide) rfl ?_
      refine r_sub [1, 0] rfl ?_
      exact s_X0_takeAllBags_L26 X Z hy ho FU 0 σ
    · refine r_aload_n (pc := 10) X dX0_takeAllBags_10 0 rfl rfl ?_
      refine r_geta (pc := 11) X dX0_takeAllBags_11 fl_X0_46 (oc_st ho) (by decide) ?_
      refine r_iload_n (pc := 14) X dX0_takeAllBags_14 1 rfl rfl ?_
      refine r_bipush (pc := 15) X dX0_takeAllBags_15 kb_m9 ?_
      refine r_iast (pc := 17) X dX0_takeAllBags_17 (ar_st ho ar_1_11) (fun σ2 => ?_)
      refine r_iinc (pc := 18) (lv' := [(0, .ref _)]) X dX0_takeAllBags_18 1 rfl (congrArg (fun z => v1 + z) kc_1) (by decide) rfl (fun x3 => ?_)
      refine r_goto (pc := 21) (tgt := 2) X dX0_takeAllBags_21 (by decide) ?_
      refine r_sub [1, 0] rfl ?_
      exact ih x3 σ2

set_option maxRecDepth 100000 in
theorem m_X0_takeAllBags {y : LY} {l : Launch} {o : Nat} (ho : 1 ≤ o ∧ o ≤ 11)  {σ : ST} {a : ST} (h : T_X0_takeAllBags o σ = some a) : MU y l yX0_takeAllBags cX0_takeAllBags 2 none (rmd 0) [.ref (ad y o)] σ (xV a) := by
  refine MU.of (φ := xV) h (by decide +kernel) rfl (fun E X Z hy => ?_)
  have X : CX y l E cX0_takeAllBags 2 RX0 (rmd 0) := X
  show WW y l E 2 _ 0 [(0, .ref (ad y o))] [] σ (T_X0_takeAllBags o σ)
  unfold T_X0_takeAllBags
  refine r_iconst (pc := 0) X dX0_takeAllBags_0 kc_0 ?_
  refine r_istore_n (pc := 1) (lv' := [(1, .int _), (0, .ref _)]) X dX0_takeAllBags_1 rfl (by decide) rfl ?_
  refine r_sub [1, 0] rfl ?_
  exact s_X0_takeAllBags_L2 X Z hy ho FU 0 σ

set_option maxRecDepth 100000 in
theorem m_X0_keeperOfFriend {y : LY} {l : Launch} {o : Nat} (ho : 1 ≤ o ∧ o ≤ 11) {a0 : Int32} {σ : ST} {a : Int32} (h : T_X0_keeperOfFriend o σ a0 = some a) : MU y l yX0_keeperOfFriend cX0_keeperOfFriend 3 (some .int) (rmd 0) [.ref (ad y o), .int a0] σ (xp σ a) := by
  refine MU.of (φ := xp σ) h (by decide +kernel) rfl (fun E X Z hy => ?_)
  have X : CX y l E cX0_keeperOfFriend 3 RX0 (rmd 0) := X
  show WW y l E 3 _ 0 [(0, .ref (ad y o)), (1, .int a0)] [] σ (T_X0_keeperOfFriend o σ a0)
  unfold T_X0_keeperOfFriend
  refine r_aload_n (pc := 0) X dX0_keeperOfFriend_0 0 rfl rfl ?_
  refine r_geta (pc := 1) X dX0_keeperOfFriend_1 fl_X0_25 (oc_st ho) (by decide) ?_
  refine r_iload_n (pc := 4) X dX0_keeperOfFriend_4 1 rfl rfl ?_
  refine r_iald (pc := 5) X dX0_keeperOfFriend_5 (ar_st ho ar_1_4) (fun x1 => ?_)
  refine r_istore_n (pc := 6) (lv' := [(2, .int _), (0, .ref _), (1, .int _)]) X dX0_keeperOfFriend_6 rfl (by decide) rfl ?_
  refine r_iload_n (pc := 7) X dX0_keeperOfFriend_7 0 rfl rfl ?_
  refine r_if_lt (pc := 8) (tgt := 28) X dX0_keeperOfFriend_8 (by decide) ?_ ?_
  · refine r_bipush (pc := 28) X dX0_keeperOfFriend_28 kb_m9 ?_
    exact r_iret (pc := 30) X Z dX0_keeperOfFriend_30 rfl
  · refine r_iload_n (pc := 11) X dX0_keeperOfFriend_11 0 rfl rfl ?_
    refine r_aload_n (pc := 12) X dX0_keeperOfFriend_12 1 rfl rfl ?_
    refine r_geti (pc := 13) X dX0_keeperOfFriend_13 fl_X0_9 (oc_st ho) rfl (fun x2 => ?_)
    refine r_icmp_ge (pc := 16) (tgt := 28) X dX0_keeperOfFriend_16 (by decide) ?_ ?_
    · refine r_bipush (pc := 28) X dX0_keeperOfFriend_28 kb_m9 ?_
      exact r_iret (pc := 30) X Z dX0_keeperOfFriend_30 rfl
    · refine r_aload_n (pc := 19) X dX0_keeperOfFriend_19 1 rfl rfl ?_
      refine r_geta (pc := 20) X dX0_keeperOfFriend_20 fl_X0_31 (oc_st ho) (by decide) ?_
      refine r_iload_n (pc := 23) X dX0_keeperOfFriend_23 0 rfl rfl ?_
      refine r_iald (pc := 24) X dX0_keeperOfFriend_24 (ar_st ho ar_1_6) (fun x3 => ?_)
      refine r_goto (pc := 25) (tgt := 30) X dX0_keeperOfFriend_25 (by decide) ?_
      exact r_iret (pc := 30) X Z dX0_keeperOfFriend_30 rfl

set_option maxRecDepth 100000 in
theorem m_X0_pullBy {y : LY} {l : Launch} {o : Nat} (ho : 1 ≤ o ∧ o ≤ 11) {a0 : Int32} {a1 : Int32} {a2 : Int32} {σ : ST} {a : Int32} (h : T_X0_pullBy o σ a0 a1 a2 = some a) : MU y l yX0_pullBy cX0_pullBy 4 (some .int) (rmd 0) [.ref (ad y o), .int a0, .int a1, .int a2] σ (xp σ a) := by
  refine MU.of (φ := xp σ) h (by decide +kernel) rfl (fun E X Z hy => ?_)
  have X : CX y l E cX0_pullBy 4 RX0 (rmd 0) := X
  show WW y l E 4 _ 0 [(0, .ref (ad y o)), (1, .int a0), (2, .int a1), (3, .int a2)] [] σ (T_X0_pullBy o σ a0 a1 a2)
  unfold T_X0_pullBy
  refine r_aload_n (pc := 0) X dX0_pullBy_0 0 rfl rfl ?_
  refine r_geta (pc := 1) X dX0_pullBy_1 fl_X0_15 (oc_st ho) (by decide) ?_
  refine r_iload_n (pc := 4) X dX0_pullBy_4 1 rfl rfl ?_
  refine r_iald (pc := 5) X dX0_pullBy_5 (ar_st ho ar_1_1) (fun x1 => ?_)
  refine r_ite (fun h0 => ?_) (fun h0 => ?_)
  · refine r_tabIn (pc := 6) (tgt := 40) (off := 34) X dX0_pullBy_6 h0 (by decide) (by decide) (by decide) (by decide) ?_
    refine r_aload_n (pc := 40) X dX0_pullBy_40 0 rfl rfl ?_
    refine r_geta (pc := 41) X dX0_pullBy_41 fl_X0_19 (oc_st ho) (by decide) ?_
    refine r_iload_n (pc := 44) X dX0_pullBy_44 1 rfl rfl ?_
    refine r_iald (pc := 45) X dX0_pullBy_45 (ar_st ho ar_1_2) (fun x8 => ?_)
    refine r_iload_n (pc := 46) X dX0_pullBy_46 2 rfl rfl ?_
    refine r_iadd (pc := 47) X dX0_pullBy_47 ?_
    exact r_iret (pc := 48) X Z dX0_pullBy_48 rfl
  · refine r_ite (fun h1 => ?_) (fun h1 => ?_)
    · refine r_tabIn (pc := 6) (tgt := 49) (off := 43) X dX0_pullBy_6 h1 (by decide) (by decide) (by decide) (by decide) ?_
      refine r_aload_n (pc := 49) X dX0_pullBy_49 0 rfl rfl ?_
      refine r_geta (pc := 50) X dX0_pullBy_50 fl_X0_19 (oc_st ho) (by decide) ?_
      refine r_iload_n (pc := 53) X dX0_pullBy_53 1 rfl rfl ?_
      refine r_iald (pc := 54) X dX0_pullBy_54 (ar_st ho ar_1_2) (fun x7 => ?_)
      refine r_iconst (pc := 55) X dX0_pullBy_55 kc_4 ?_
      refine r_iadd (pc := 56) X dX0_pullBy_56 ?_
      exact r_iret (pc := 57) X Z dX0_pullBy_57 rfl
    · refine r_ite (fun h2 => ?_) (fun h2 => ?_)
      · refine r_tabIn (pc := 6) (tgt := 58) (off := 52) X dX0_pullBy_6 h2 (by decide) (by decide) (by decide) (by decide) ?_
        refine r_aload_n (pc := 58) X dX0_pullBy_58 0 rfl rfl ?_
        refine r_geta (pc := 59) X dX0_pullBy_59 fl_X0_19 (oc_st ho) (by decide) ?_
        refine r_iload_n (pc := 62) X dX0_pullBy_62 1 rfl rfl ?_
        refine r_iald (pc := 63) X dX0_pullBy_63 (ar_st ho ar_1_2) (fun x6 => ?_)
        refine r_iconst (pc := 64) X dX0_pullBy_64 kc_2 ?_
        refine r_idiv (pc := 65) X dX0_pullBy_65 (by decide) ?_
        exact r_iret (pc := 66) X Z dX0_pullBy_66 rfl
      · refine r_ite (fun h3 => ?_) (fun h3 => ?_)
        · refine r_tabIn (pc := 6) (tgt := 67) (off := 61) X dX0_pullBy_6 h3 (by decide) (by decide) (by decide) (by decide) ?_
          refine r_iload_n (pc := 67) X dX0_pullBy_67 3 rfl rfl ?_
          refine r_if_eq (pc := 68) (tgt := 82) X dX0_pullBy_68 (by decide) ?_ ?_
          · refine r_aload_n (pc := 82) X dX0_pullBy_82 0 rfl rfl ?_
            refine r_geta (pc := 83) X dX0_pullBy_83 fl_X0_19 (oc_st ho) (by decide) ?_
            refine r_iload_n (pc := 86) X dX0_pullBy_86 1 rfl rfl ?_
            refine r_iald (pc := 87) X dX0_pullBy_87 (ar_st ho ar_1_2) (fun x4 => ?_)
            exact r_iret (pc := 88) X Z dX0_pullBy_88 rfl
          · refine r_aload_n (pc := 71) X dX0_pullBy_71 0 rfl rfl ?_
            refine r_geta (pc := 72) X dX0_pullBy_72 fl_X0_19 (oc_st ho) (by decide) ?_
            refine r_iload_n (pc := 75) X dX0_pullBy_75 1 rfl rfl ?_
            refine r_iald (pc := 76) X dX0_pullBy_76 (ar_st ho ar_1_2) (fun x5 => ?_)
            refine r_iconst (pc := 77) X dX0_pullBy_77 kc_2 ?_
            refine r_iadd (pc := 78) X dX0_pullBy_78 ?_
            refine r_goto (pc := 79) (tgt := 88) X dX0_pullBy_79 (by decide) ?_
            exact r_iret (pc := 88) X Z dX0_pullBy_88 rfl
        · refine r_ite (fun h4 => ?_) (fun h4 => ?_)
          · refine r_tabIn (pc := 6) (tgt := 89) (off := 83) X dX0_pullBy_6 h4 (by decide) (by decide) (by decide) (by decide) ?_
            refine r_iconst (pc := 89) X dX0_pullBy_89 kc_2 ?_
            refine r_aload_n (pc := 90) X dX0_pullBy_90 0 rfl rfl ?_
            refine r_geta (pc := 91) X dX0_pullBy_91 fl_X0_19 (oc_st ho) (by decide) ?_
            refine r_iload_n (pc := 94) X dX0_pullBy_94 1 rfl rfl ?_
            refine r_iald (pc := 95) X dX0_pullBy_95 (ar_st ho ar_1_2) (fun x3 => ?_)
            refine r_iload_n (pc := 96) X dX0_pullBy_96 2 rfl rfl ?_
            refine r_iadd (pc := 97) X dX0_pullBy_97 ?_
            refine r_imul (pc := 98) X dX0_pullBy_98 ?_
            exact r_iret (pc := 99) X Z dX0_pullBy_99 rfl
          · refine r_tabOut (pc := 6) (tgt := 100) X dX0_pullBy_6 (tab_out [(1 : Int32), (2 : Int32), (3 : Int32), (4 : Int32), (5 : Int32)] (List.forall_mem_cons.mpr ⟨h0, List.forall_mem_cons.mpr ⟨h1, List.forall_mem_cons.mpr ⟨h2, List.forall_mem_cons.mpr ⟨h3, List.forall_mem_cons.mpr ⟨h4, List.forall_mem_nil _⟩⟩⟩⟩⟩) (by decide)) (by decide) ?_
            refine r_aload_n (pc := 100) X dX0_pullBy_100 0 rfl rfl ?_
            refine r_geta (pc := 101) X dX0_pullBy_101 fl_X0_19 (oc_st ho) (by decide) ?_
            refine r_iload_n (pc := 104) X dX0_pullBy_104 1 rfl rfl ?_
            refine r_iald (pc := 105) X dX0_pullBy_105 (ar_st ho ar_1_2) (fun x2 => ?_)
            exact r_iret (pc := 106) X Z dX0_pullBy_106 rfl

set_option maxRecDepth 100000 in
theorem s_X0_pullOf_j29 {y : LY} {l : Launch} {E : ET} (X : CX y l E cX0_pullOf 2 RX0 (rmd 1)) (Z : ZX E (some .int)) (hy : y.1 ≤ (eS E).heap.size) {o : Nat} (ho : 1 ≤ o ∧ o ≤ 11) {σ : ST}   (s0 : Int32) (s1 : Int32) (s2 : Int32) : WW y l E 2 (fun a => QM y E (xp σ a)) 29 [] [.int s0, .int s1, .int s2, .ref (ad y o)] σ (T_X0_pullOf_j29 o σ  s0 s1 s2) := by
  unfold T_X0_pullOf_j29
  refine r_callvp (pc := 29) X dX0_pullOf_29 cf_X0_pullBy ml_X0_97 (rf rfl rfl) hy (oc_st ho).1 (hc_0 ho) (fun b hb => m_X0_pullBy ho hb) rfl rfl (Nat.le_of_ble_eq_true rfl) (fun x1 => ?_)
  refine r_goto (pc := 32) (tgt := 37) X dX0_pullOf_32 (by decide) ?_
  exact r_iret (pc := 37) X Z dX0_pullOf_37 rfl

set_option maxRecDepth 100000 in
theorem m_X0_pullOf {y : LY} {l : Launch} {o : Nat} (ho : 1 ≤ o ∧ o ≤ 11) {a0 : Int32} {σ : ST} {a : Int32} (h : T_X0_pullOf o σ a0 = some a) : MU y l yX0_pullOf cX0_pullOf 2 (some .int) (rmd 1) [.ref (ad y o), .int a0] σ (xp σ a) := by
  refine MU.of (φ := xp σ) h (by decide +kernel) rfl (fun E X Z hy => ?_)
  have X : CX y l E cX0_pullOf 2 RX0 (rmd 1) := X
  show WW y l E 2 _ 0 [(0, .ref (ad y o)), (1, .int a0)] [] σ (T_X0_pullOf o σ a0)
  unfold T_X0_pullOf
  refine r_aload_n (pc := 0) X dX0_pullOf_0 0 rfl rfl ?_
  refine r_iload_n (pc := 1) X dX0_pullOf_1 1 rfl rfl ?_
  refine r_callvp (pc := 2) X dX0_pullOf_2 cf_X0_hasBag ml_X0_79 (rf rfl rfl) hy (oc_st ho).1 (hc_0 ho) (fun b hb => m_X0_hasBag ho hb) rfl rfl (Nat.le_of_ble_eq_true rfl) (fun x1 => ?_)
  refine r_if_eq (pc := 5) (tgt := 35) X dX0_pullOf_5 (by decide) ?_ ?_
  · refine r_bipush (pc := 35) X dX0_pullOf_35 kb_m9 ?_
    exact r_iret (pc := 37) X Z dX0_pullOf_37 rfl
  · refine r_aload_n (pc := 8) X dX0_pullOf_8 0 rfl rfl ?_
    refine r_iload_n (pc := 9) X dX0_pullOf_9 1 rfl rfl ?_
    refine r_aload_n (pc := 10) X dX0_pullOf_10 0 rfl rfl ?_
    refine r_geta (pc := 11) X dX0_pullOf_11 fl_X0_28 (oc_st ho) (by decide) ?_
    refine r_iload_n (pc := 14) X dX0_pullOf_14 1 rfl rfl ?_
    refine r_iald (pc := 15) X dX0_pullOf_15 (ar_st ho ar_1_5) (fun x3 => ?_)
    refine r_aload_n (pc := 16) X dX0_pullOf_16 0 rfl rfl ?_
    refine r_iload_n (pc := 17) X dX0_pullOf_17 1 rfl rfl ?_
    refine r_callvp (pc := 18) X dX0_pullOf_18 cf_X0_keeperOfFriend ml_X0_93 (rf rfl rfl) hy (oc_st ho).1 (hc_0 ho) (fun b hb => m_X0_keeperOfFriend ho hb) rfl rfl (Nat.le_of_ble_eq_true rfl) (fun x4 => ?_)
    refine r_if_lt (pc := 21) (tgt := 28) X dX0_pullOf_21 (by decide) ?_ ?_
    · refine r_iconst (pc := 28) X dX0_pullOf_28 kc_0 ?_
      refine r_sub [] rfl ?_
      exact s_X0_pullOf_j29 X Z hy ho 0 x3 a0
    · refine r_iconst (pc := 24) X dX0_pullOf_24 kc_1 ?_
      refine r_goto (pc := 25) (tgt := 29) X dX0_pullOf_25 (by decide) ?_
      refine r_sub [] rfl ?_
      exact s_X0_pullOf_j29 X Z hy ho 1 x3 a0

set_option maxRecDepth 100000 in
theorem m_X0_plainPullOf {y : LY} {l : Launch} {o : Nat} (ho : 1 ≤ o ∧ o ≤ 11) {a0 : Int32} {σ : ST} {a : Int32} (h : T_X0_plainPullOf o σ a0 = some a) : MU y l yX0_plainPullOf cX0_plainPullOf 2 (some .int) (rmd 1) [.ref (ad y o), .int a0] σ (xp σ a) := by
  refine MU.of (φ := xp σ) h (by decide +kernel) rfl (fun E X Z hy => ?_)
  have X : CX y l E cX0_plainPullOf 2 RX0 (rmd 1) := X
  show WW y l E 2 _ 0 [(0, .ref (ad y o)), (1, .int a0)] [] σ (T_X0_plainPullOf o σ a0)
  unfold T_X0_plainPullOf
  refine r_aload_n (pc := 0) X dX0_plainPullOf_0 0 rfl rfl ?_
  refine r_iload_n (pc := 1) X dX0_plainPullOf_1 1 rfl rfl ?_
  refine r_callvp (pc := 2) X dX0_plainPullOf_2 cf_X0_hasBag ml_X0_79 (rf rfl rfl) hy (oc_st ho).1 (hc_0 ho) (fun b hb => m_X0_hasBag ho hb) rfl rfl (Nat.le_of_ble_eq_true rfl) (fun x1 => ?_)
  refine r_if_eq (pc := 5) (tgt := 18) X dX0_plainPullOf_5 (by decide) ?_ ?_
  · refine r_bipush (pc := 18) X dX0_plainPullOf_18 kb_m9 ?_
    exact r_iret (pc := 20) X Z dX0_plainPullOf_20 rfl
  · refine r_aload_n (pc := 8) X dX0_plainPullOf_8 0 rfl rfl ?_
    refine r_iload_n (pc := 9) X dX0_plainPullOf_9 1 rfl rfl ?_
    refine r_iconst (pc := 10) X dX0_plainPullOf_10 kc_0 ?_
    refine r_iconst (pc := 11) X dX0_plainPullOf_11 kc_0 ?_
    refine r_callvp (pc := 12) X dX0_plainPullOf_12 cf_X0_pullBy ml_X0_97 (rf rfl rfl) hy (oc_st ho).1 (hc_0 ho) (fun b hb => m_X0_pullBy ho hb) rfl rfl (Nat.le_of_ble_eq_true rfl) (fun x3 => ?_)
    refine r_goto (pc := 15) (tgt := 20) X dX0_plainPullOf_15 (by decide) ?_
    exact r_iret (pc := 20) X Z dX0_plainPullOf_20 rfl

set_option maxRecDepth 100000 in
theorem m_X0_goalOf {y : LY} {l : Launch} {o : Nat} (ho : 1 ≤ o ∧ o ≤ 11) {a0 : Int32} {a1 : Int32} {σ : ST} {a : Int32} (h : T_X0_goalOf o σ a0 a1 = some a) : MU y l yX0_goalOf cX0_goalOf 4 (some .int) (rmd 1) [.ref (ad y o), .int a0, .int a1] σ (xp σ a) := by
  refine MU.of (φ := xp σ) h (by decide +kernel) rfl (fun E X Z hy => ?_)
  have X : CX y l E cX0_goalOf 4 RX0 (rmd 1) := X
  show WW y l E 4 _ 0 [(0, .ref (ad y o)), (1, .int a0), (2, .int a1)] [] σ (T_X0_goalOf o σ a0 a1)
  unfold T_X0_goalOf
  refine r_aload_n (pc := 0) X dX0_goalOf_0 0 rfl rfl ?_
  refine r_geta (pc := 1) X dX0_goalOf_1 fl_X0_15 (oc_st ho) (by decide) ?_
  refine r_iload_n (pc := 4) X dX0_goalOf_4 1 rfl rfl ?_
  refine r_iald (pc := 5) X dX0_goalOf_5 (ar_st ho ar_1_1) (fun x1 => ?_)
  refine r_ite (fun h0 => ?_) (fun h0 => ?_)
  · refine r_tabIn (pc := 6) (tgt := 32) (off := 26) X dX0_goalOf_6 h0 (by decide) (by decide) (by decide) (by decide) ?_
    refine r_aload_n (pc := 32) X dX0_goalOf_32 0 rfl rfl ?_
    refine r_geti (pc := 33) X dX0_goalOf_33 fl_X0_52 (oc_st ho) rfl (fun x12 => ?_)
    refine r_iconst (pc := 36) X dX0_goalOf_36 kc_5 ?_
    refine r_iadd (pc := 37) X dX0_goalOf_37 ?_
    refine r_bipush (pc := 38) X dX0_goalOf_38 kb_10 ?_
    refine r_irem (pc := 40) X dX0_goalOf_40 (by decide) ?_
    exact r_iret (pc := 41) X Z dX0_goalOf_41 rfl
  · refine r_ite (fun h1 => ?_) (fun h1 => ?_)
    · refine r_tabIn (pc := 6) (tgt := 42) (off := 36) X dX0_goalOf_6 h1 (by decide) (by decide) (by decide) (by decide) ?_
      refine r_aload_n (pc := 42) X dX0_goalOf_42 0 rfl rfl ?_
      refine r_geti (pc := 43) X dX0_goalOf_43 fl_X0_55 (oc_st ho) rfl (fun x9 => ?_)
      refine r_iconst (pc := 46) X dX0_goalOf_46 kc_2 ?_
      refine r_irem (pc := 47) X dX0_goalOf_47 (by decide) ?_
      refine r_if_ne (pc := 48) (tgt := 60) X dX0_goalOf_48 (by decide) ?_ ?_
      · refine r_aload_n (pc := 60) X dX0_goalOf_60 0 rfl rfl ?_
        refine r_geta (pc := 61) X dX0_goalOf_61 fl_X0_40 (oc_st ho) (by decide) ?_
        refine r_iload_n (pc := 64) X dX0_goalOf_64 2 rfl rfl ?_
        refine r_iald (pc := 65) X dX0_goalOf_65 (ar_st ho ar_1_9) (fun x10 => ?_)
        exact r_iret (pc := 66) X Z dX0_goalOf_66 rfl
      · refine r_aload_n (pc := 51) X dX0_goalOf_51 0 rfl rfl ?_
        refine r_geta (pc := 52) X dX0_goalOf_52 fl_X0_22 (oc_st ho) (by decide) ?_
        refine r_iload_n (pc := 55) X dX0_goalOf_55 1 rfl rfl ?_
        refine r_iald (pc := 56) X dX0_goalOf_56 (ar_st ho ar_1_3) (fun x11 => ?_)
        refine r_goto (pc := 57) (tgt := 66) X dX0_goalOf_57 (by decide) ?_
        exact r_iret (pc := 66) X Z dX0_goalOf_66 rfl
    · refine r_ite (fun h2 => ?_) (fun h2 => ?_)
      · refine r_tabIn (pc := 6) (tgt := 67) (off := 61) X dX0_goalOf_6 h2 (by decide) (by decide) (by decide) (by decide) ?_
        refine r_aload_n (pc := 67) X dX0_goalOf_67 0 rfl rfl ?_
        refine r_iload_n (pc := 68) X dX0_goalOf_68 1 rfl rfl ?_
        refine r_callvp (pc := 69) X dX0_goalOf_69 cf_X0_keeperOfFriend ml_X0_93 (rf rfl rfl) hy (oc_st ho).1 (hc_0 ho) (fun b hb => m_X0_keeperOfFriend ho hb) rfl rfl (Nat.le_of_ble_eq_true rfl) (fun x3 => ?_)
        refine r_istore_n (pc := 72) (lv' := [(3, .int _), (0, .ref _), (1, .int _), (2, .int _)]) X dX0_goalOf_72 rfl (by decide) rfl ?_
        refine r_aload_n (pc := 73) X dX0_goalOf_73 1 rfl rfl ?_
        refine r_iload_n (pc := 74) X dX0_goalOf_74 0 rfl rfl ?_
        refine r_callvp (pc := 75) X dX0_goalOf_75 cf_X0_hasBearer ml_X0_83 (rf rfl rfl) hy (oc_st ho).1 (hc_0 ho) (fun b hb => m_X0_hasBearer ho hb) rfl rfl (Nat.le_of_ble_eq_true rfl) (fun x5 => ?_)
        refine r_if_eq (pc := 78) (tgt := 90) X dX0_goalOf_78 (by decide) ?_ ?_
        · refine r_aload_n (pc := 90) X dX0_goalOf_90 1 rfl rfl ?_
          refine r_geta (pc := 91) X dX0_goalOf_91 fl_X0_22 (oc_st ho) (by decide) ?_
          refine r_iload_n (pc := 94) X dX0_goalOf_94 2 rfl rfl ?_
          refine r_iald (pc := 95) X dX0_goalOf_95 (ar_st ho ar_1_3) (fun x7 => ?_)
          exact r_iret (pc := 96) X Z dX0_goalOf_96 rfl
        · refine r_aload_n (pc := 81) X dX0_goalOf_81 1 rfl rfl ?_
          refine r_geta (pc := 82) X dX0_goalOf_82 fl_X0_43 (oc_st ho) (by decide) ?_
          refine r_iload_n (pc := 85) X dX0_goalOf_85 0 rfl rfl ?_
          refine r_iald (pc := 86) X dX0_goalOf_86 (ar_st ho ar_1_10) (fun x8 => ?_)
          refine r_goto (pc := 87) (tgt := 96) X dX0_goalOf_87 (by decide) ?_
          exact r_iret (pc := 96) X Z dX0_goalOf_96 rfl
      · refine r_tabOut (pc := 6) (tgt := 97) X dX0_goalOf_6 (tab_out [(2 : Int32), (3 : Int32), (4 : Int32)] (List.forall_mem_cons.mpr ⟨h0, List.forall_mem_cons.mpr ⟨h1, List.forall_mem_cons.mpr ⟨h2, List.forall_mem_nil _⟩⟩⟩) (by decide)) (by decide) ?_
        refine r_aload_n (pc := 97) X dX0_goalOf_97 0 rfl rfl ?_
        refine r_geta (pc := 98) X dX0_goalOf_98 fl_X0_22 (oc_st ho) (by decide) ?_
        refine r_iload_n (pc := 101) X dX0_goalOf_101 1 rfl rfl ?_
        refine r_iald (pc := 102) X dX0_goalOf_102 (ar_st ho ar_1_3) (fun x2 => ?_)
        exact r_iret (pc := 103) X Z dX0_goalOf_103 rfl

set_option maxRecDepth 100000 in
theorem m_X0_paceOf {y : LY} {l : Launch} {o : Nat} (ho : 1 ≤ o ∧ o ≤ 11) {a0 : Int32} {σ : ST} {a : Int32} (h : T_X0_paceOf o σ a0 = some a) : MU y l yX0_paceOf cX0_paceOf 2 (some .int) (rmd 0) [.ref (ad y o), .int a0] σ (xp σ a) := by
  refine MU.of (φ := xp σ) h (by decide +kernel) rfl (fun E X Z hy => ?_)
  have X : CX y l E cX0_paceOf 2 RX0 (rmd 0) := X
  show WW y l E 2 _ 0 [(0, .ref (ad y o)), (1, .int a0)] [] σ (T_X0_paceOf o σ a0)
  unfold T_X0_paceOf
  refine r_aload_n (pc := 0) X dX0_paceOf_0 0 rfl rfl ?_
  refine r_geta (pc := 1) X dX0_paceOf_1 fl_X0_15 (oc_st ho) (by decide) ?_
  refine r_iload_n (pc := 4) X dX0_paceOf_4 1 rfl rfl ?_
  refine r_iald (pc := 5) X dX0_paceOf_5 (ar_st ho ar_1_1) (fun x1 => ?_)
  refine r_iconst (pc := 6) X dX0_paceOf_6 kc_5 ?_
  refine r_icmp_ne (pc := 7) (tgt := 14) X dX0_paceOf_7 (by decide) ?_ ?_
  · refine r_iconst (pc := 14) X dX0_paceOf_14 kc_1 ?_
    exact r_iret (pc := 15) X Z dX0_paceOf_15 rfl
  · refine r_iconst (pc := 10) X dX0_paceOf_10 kc_2 ?_
    refine r_goto (pc := 11) (tgt := 15) X dX0_paceOf_11 (by decide) ?_
    exact r_iret (pc := 15) X Z dX0_paceOf_15 rfl

set_option maxRecDepth 100000 in
theorem m_X0_isLed {y : LY} {l : Launch} {o : Nat} (ho : 1 ≤ o ∧ o ≤ 11) {a0 : Int32} {σ : ST} {a : Int32} (h : T_X0_isLed o σ a0 = some a) : MU y l yX0_isLed cX0_isLed 2 (some .boolean) (rmd 2) [.ref (ad y o), .int a0] σ (xp σ a) := by
  refine MU.of (φ := xp σ) h (by decide +kernel) rfl (fun E X Z hy => ?_)
  have X : CX y l E cX0_isLed 2 RX0 (rmd 2) := X
  show WW y l E 2 _ 0 [(0, .ref (ad y o)), (1, .int a0)] [] σ (T_X0_isLed o σ a0)
  unfold T_X0_isLed
  refine r_aload_n (pc := 0) X dX0_isLed_0 0 rfl rfl ?_
  refine r_aload_n (pc := 1) X dX0_isLed_1 0 rfl rfl ?_
  refine r_geta (pc := 2) X dX0_isLed_2 fl_X0_46 (oc_st ho) (by decide) ?_
  refine r_iload_n (pc := 5) X dX0_isLed_5 1 rfl rfl ?_
  refine r_iald (pc := 6) X dX0_isLed_6 (ar_st ho ar_1_11) (fun x1 => ?_)
  refine r_callvp (pc := 7) X dX0_isLed_7 cf_X0_hasBag ml_X0_79 (rf rfl rfl) hy (oc_st ho).1 (hc_0 ho) (fun b hb => m_X0_hasBag ho hb) rfl rfl (Nat.le_of_ble_eq_true rfl) (fun x2 => ?_)
  refine r_if_eq (pc := 10) (tgt := 36) X dX0_isLed_10 (by decide) ?_ ?_
  · refine r_iconst (pc := 36) X dX0_isLed_36 kc_0 ?_
    exact r_zret (pc := 37) X Z dX0_isLed_37 rfl (Or.inl rfl)
  · refine r_aload_n (pc := 13) X dX0_isLed_13 0 rfl rfl ?_
    refine r_aload_n (pc := 14) X dX0_isLed_14 0 rfl rfl ?_
    refine r_geta (pc := 15) X dX0_isLed_15 fl_X0_46 (oc_st ho) (by decide) ?_
    refine r_iload_n (pc := 18) X dX0_isLed_18 1 rfl rfl ?_
    refine r_iald (pc := 19) X dX0_isLed_19 (ar_st ho ar_1_11) (fun x4 => ?_)
    refine r_callvp (pc := 20) X dX0_isLed_20 cf_X0_pullOf ml_X0_101 (rf rfl rfl) hy (oc_st ho).1 (hc_0 ho) (fun b hb => m_X0_pullOf ho hb) rfl rfl (Nat.le_of_ble_eq_true rfl) (fun x5 => ?_)
    refine r_aload_n (pc := 23) X dX0_isLed_23 0 rfl rfl ?_
    refine r_geta (pc := 24) X dX0_isLed_24 fl_X0_37 (oc_st ho) (by decide) ?_
    refine r_iload_n (pc := 27) X dX0_isLed_27 1 rfl rfl ?_
    refine r_iald (pc := 28) X dX0_isLed_28 (ar_st ho ar_1_8) (fun x7 => ?_)
    refine r_icmp_le (pc := 29) (tgt := 36) X dX0_isLed_29 (by decide) ?_ ?_
    · refine r_iconst (pc := 36) X dX0_isLed_36 kc_0 ?_
      exact r_zret (pc := 37) X Z dX0_isLed_37 rfl (Or.inl rfl)
    · refine r_iconst (pc := 32) X dX0_isLed_32 kc_1 ?_
      refine r_goto (pc := 33) (tgt := 37) X dX0_isLed_33 (by decide) ?_
      exact r_zret (pc := 37) X Z dX0_isLed_37 rfl (Or.inr rfl)

set_option maxRecDepth 100000 in
theorem m_J9_floorMod_7cf53 {y : LY} {l : Launch}  {a0 : Int32} {a1 : Int32} {σ : ST} {a : Int32} (h : T_J9_floorMod_7cf53 σ a0 a1 = some a) : MU y l yJ9_floorMod_7cf53 cJ9_floorMod_7cf53 3 (some .int) (rmd 0) [.int a0, .int a1] σ (xp σ a) := by
  refine MU.of (φ := xp σ) h (by decide +kernel) rfl (fun E X Z hy => ?_)
  have X : CX y l E cJ9_floorMod_7cf53 3 RJ9 (rmd 0) := X
  show WW y l E 3 _ 0 [(0, .int a0), (1, .int a1)] [] σ (T_J9_floorMod_7cf53 σ a0 a1)
  unfold T_J9_floorMod_7cf53
  refine r_iload_n (pc := 0) X dJ9_floorMod_7cf53_0 0 rfl rfl ?_
  refine r_iload_n (pc := 1) X dJ9_floorMod_7cf53_1 1 rfl rfl ?_
  refine r_iremz (pc := 2) X dJ9_floorMod_7cf53_2 ?_
  refine r_vl (fun x1 => ?_)
  refine r_istore_n (pc := 3) (lv' := [(2, .int _), (0, .int _), (1, .int _)]) X dJ9_floorMod_7cf53_3 rfl (by decide) rfl ?_
  refine r_iload_n (pc := 4) X dJ9_floorMod_7cf53_4 1 rfl rfl ?_
  refine r_iload_n (pc := 5) X dJ9_floorMod_7cf53_5 2 rfl rfl ?_
  refine r_ixor (pc := 6) X dJ9_floorMod_7cf53_6 ?_
  refine r_if_ge (pc := 7) (tgt := 18) X dJ9_floorMod_7cf53_7 (by decide) ?_ ?_
  · refine r_iload_n (pc := 18) X dJ9_floorMod_7cf53_18 0 rfl rfl ?_
    exact r_iret (pc := 19) X Z dJ9_floorMod_7cf53_19 rfl
  · refine r_iload_n (pc := 10) X dJ9_floorMod_7cf53_10 0 rfl rfl ?_
    refine r_if_eq (pc := 11) (tgt := 18) X dJ9_floorMod_7cf53_11 (by decide) ?_ ?_
    · refine r_iload_n (pc := 18) X dJ9_floorMod_7cf53_18 0 rfl rfl ?_
      exact r_iret (pc := 19) X Z dJ9_floorMod_7cf53_19 rfl
    · refine r_iload_n (pc := 14) X dJ9_floorMod_7cf53_14 0 rfl rfl ?_
      refine r_iload_n (pc := 15) X dJ9_floorMod_7cf53_15 2 rfl rfl ?_
      refine r_iadd (pc := 16) X dJ9_floorMod_7cf53_16 ?_
      exact r_iret (pc := 17) X Z dJ9_floorMod_7cf53_17 rfl

set_option maxRecDepth 100000 in
theorem m_J9_min_7cf53 {y : LY} {l : Launch}  {a0 : Int32} {a1 : Int32} {σ : ST} {a : Int32} (h : T_J9_min_7cf53 σ a0 a1 = some a) : MU y l yJ9_min_7cf53 cJ9_min_7cf53 2 (some .int) (rmd 0) [.int a0, .int a1] σ (xp σ a) := by
  refine MU.of (φ := xp σ) h (by decide +kernel) rfl (fun E X Z hy => ?_)
  have X : CX y l E cJ9_min_7cf53 2 RJ9 (rmd 0) := X
  show WW y l E 2 _ 0 [(0, .int a0), (1, .int a1)] [] σ (T_J9_min_7cf53 σ a0 a1)
  unfold T_J9_min_7cf53
  refine r_iload_n (pc := 0) X dJ9_min_7cf53_0 0 rfl rfl ?_
  refine r_iload_n (pc := 1) X dJ9_min_7cf53_1 1 rfl rfl ?_
  refine r_icmp_gt (pc := 2) (tgt := 9) X dJ9_min_7cf53_2 (by decide) ?_ ?_
  · refine r_iload_n (pc := 9) X dJ9_min_7cf53_9 1 rfl rfl ?_
    exact r_iret (pc := 10) X Z dJ9_min_7cf53_10 rfl
  · refine r_iload_n (pc := 5) X dJ9_min_7cf53_5 0 rfl rfl ?_
    refine r_goto (pc := 6) (tgt := 10) X dJ9_min_7cf53_6 (by decide) ?_
    exact r_iret (pc := 10) X Z dJ9_min_7cf53_10 rfl

set_option maxRecDepth 100000 in
theorem m_X0_toward {y : LY} {l : Launch}  {a0 : Int32} {a1 : Int32} {a2 : Int32} {σ : ST} {a : Int32} (h : T_X0_toward σ a0 a1 a2 = some a) : MU y l yX0_toward cX0_toward 5 (some .int) (rmd 1) [.int a0, .int a1, .int a2] σ (xp σ a) := by
  refine MU.of (φ := xp σ) h (by decide +kernel) rfl (fun E X Z hy => ?_)
  have X : CX y l E cX0_toward 5 RX0 (rmd 1) := X
  show WW y l E 5 _ 0 [(0, .int a0), (1, .int a1), (2, .int a2)] [] σ (T_X0_toward σ a0 a1 a2)
  unfold T_X0_toward
  refine r_iload_n (pc := 0) X dX0_toward_0 1 rfl rfl ?_
  refine r_iload_n (pc := 1) X dX0_toward_1 0 rfl rfl ?_
  refine r_isub (pc := 2) X dX0_toward_2 ?_
  refine r_bipush (pc := 3) X dX0_toward_3 kb_10 ?_
  refine r_callsp (pc := 5) X dX0_toward_5 cf_J9_floorMod_7cf53 ml_X0_138 (rf rfl rfl) hy (fun b hb => m_J9_floorMod_7cf53 hb) rfl rfl (Nat.le_of_ble_eq_true rfl) (fun x1 => ?_)
  refine r_istore_n (pc := 8) (lv' := [(3, .int _), (0, .int _), (1, .int _), (2, .int _)]) X dX0_toward_8 rfl (by decide) rfl ?_
  refine r_bipush (pc := 9) X dX0_toward_9 kb_10 ?_
  refine r_iload_n (pc := 11) X dX0_toward_11 0 rfl rfl ?_
  refine r_isub (pc := 12) X dX0_toward_12 ?_
  refine r_vl (fun x3 => ?_)
  refine r_istore (pc := 13) (lv' := [(4, .int _), (3, .int _), (0, .int _), (1, .int _), (2, .int _)]) X dX0_toward_13 (by decide) rfl ?_
  refine r_iload_n (pc := 15) X dX0_toward_15 1 rfl rfl ?_
  refine r_iload (pc := 16) X dX0_toward_16 0 rfl ?_
  refine r_icmp_gt (pc := 18) (tgt := 34) X dX0_toward_18 (by decide) ?_ ?_
  · refine r_iload_n (pc := 34) X dX0_toward_34 2 rfl rfl ?_
    refine r_iload_n (pc := 35) X dX0_toward_35 4 rfl rfl ?_
    refine r_iload (pc := 36) X dX0_toward_36 0 rfl ?_
    refine r_callsp (pc := 38) X dX0_toward_38 cf_J9_min_7cf53 ml_X0_113 (rf rfl rfl) hy (fun b hb => m_J9_min_7cf53 hb) rfl rfl (Nat.le_of_ble_eq_true rfl) (fun x4 => ?_)
    refine r_isub (pc := 41) X dX0_toward_41 ?_
    refine r_bipush (pc := 42) X dX0_toward_42 kb_10 ?_
    refine r_callsp (pc := 44) X dX0_toward_44 cf_J9_floorMod_7cf53 ml_X0_138 (rf rfl rfl) hy (fun b hb => m_J9_floorMod_7cf53 hb) rfl rfl (Nat.le_of_ble_eq_true rfl) (fun x6 => ?_)
    exact r_iret (pc := 47) X Z dX0_toward_47 rfl
  · refine r_iload_n (pc := 21) X dX0_toward_21 2 rfl rfl ?_
    refine r_iload_n (pc := 22) X dX0_toward_22 4 rfl rfl ?_
    refine r_iload_n (pc := 23) X dX0_toward_23 1 rfl rfl ?_
    refine r_callsp (pc := 24) X dX0_toward_24 cf_J9_min_7cf53 ml_X0_113 (rf rfl rfl) hy (fun b hb => m_J9_min_7cf53 hb) rfl rfl (Nat.le_of_ble_eq_true rfl) (fun x8 => ?_)
    refine r_iadd (pc := 27) X dX0_toward_27 ?_
    refine r_bipush (pc := 28) X dX0_toward_28 kb_10 ?_
    refine r_callsp (pc := 30) X dX0_toward_30 cf_J9_floorMod_7cf53 ml_X0_138 (rf rfl rfl) hy (fun b hb => m_J9_floorMod_7cf53 hb) rfl rfl (Nat.le_of_ble_eq_true rfl) (fun x10 => ?_)
    exact r_iret (pc := 33) X Z dX0_toward_33 rfl

set_option maxRecDepth 100000 in
theorem m_X2_placesApart {y : LY} {l : Launch}  {a0 : Int32} {a1 : Int32} {σ : ST} {a : Int32} (h : T_X2_placesApart σ a0 a1 = some a) : MU y l yX2_placesApart cX2_placesApart 3 (some .int) (rmd 1) [.int a0, .int a1] σ (xp σ a) := by
  refine MU.of (φ := xp σ) h (by decide +kernel) rfl (fun E X Z hy => ?_)
  have X : CX y l E cX2_placesApart 3 RX2 (rmd 1) := X
  show WW y l E 3 _ 0 [(0, .int a0), (1, .int a1)] [] σ (T_X2_placesApart σ a0 a1)
  unfold T_X2_placesApart
  refine r_iload_n (pc := 0) X dX2_placesApart_0 1 rfl rfl ?_
  refine r_iload_n (pc := 1) X dX2_placesApart_1 0 rfl rfl ?_
  refine r_isub (pc := 2) X dX2_placesApart_2 ?_
  refine r_bipush (pc := 3) X dX2_placesApart_3 kb_10 ?_
  refine r_callsp (pc := 5) X dX2_placesApart_5 cf_J9_floorMod_7cf53 ml_X2_329 (rf rfl rfl) hy (fun b hb => m_J9_floorMod_7cf53 hb) rfl rfl (Nat.le_of_ble_eq_true rfl) (fun x1 => ?_)
  refine r_istore_n (pc := 8) (lv' := [(2, .int _), (0, .int _), (1, .int _)]) X dX2_placesApart_8 rfl (by decide) rfl ?_
  refine r_iload_n (pc := 9) X dX2_placesApart_9 0 rfl rfl ?_
  refine r_bipush (pc := 10) X dX2_placesApart_10 kb_10 ?_
  refine r_iload_n (pc := 12) X dX2_placesApart_12 0 rfl rfl ?_
  refine r_isub (pc := 13) X dX2_placesApart_13 ?_
  refine r_callsp (pc := 14) X dX2_placesApart_14 cf_J9_min_7cf53 ml_X2_263 (rf rfl rfl) hy (fun b hb => m_J9_min_7cf53 hb) rfl rfl (Nat.le_of_ble_eq_true rfl) (fun x3 => ?_)
  exact r_iret (pc := 17) X Z dX2_placesApart_17 rfl

set_option maxRecDepth 100000 in
theorem m_J9_max_7cf53 {y : LY} {l : Launch}  {a0 : Int32} {a1 : Int32} {σ : ST} {a : Int32} (h : T_J9_max_7cf53 σ a0 a1 = some a) : MU y l yJ9_max_7cf53 cJ9_max_7cf53 2 (some .int) (rmd 0) [.int a0, .int a1] σ (xp σ a) := by
  refine MU.of (φ := xp σ) h (by decide +kernel) rfl (fun E X Z hy => ?_)
  have X : CX y l E cJ9_max_7cf53 2 RJ9 (rmd 0) := X
  show WW y l E 2 _ 0 [(0, .int a0), (1, .int a1)] [] σ (T_J9_max_7cf53 σ a0 a1)
  unfold T_J9_max_7cf53
  refine r_iload_n (pc := 0) X dJ9_max_7cf53_0 0 rfl rfl ?_
  refine r_iload_n (pc := 1) X dJ9_max_7cf53_1 1 rfl rfl ?_
  refine r_icmp_lt (pc := 2) (tgt := 9) X dJ9_max_7cf53_2 (by decide) ?_ ?_
  · refine r_iload_n (pc := 9) X dJ9_max_7cf53_9 1 rfl rfl ?_
    exact r_iret (pc := 10) X Z dJ9_max_7cf53_10 rfl
  · refine r_iload_n (pc := 5) X dJ9_max_7cf53_5 0 rfl rfl ?_
    refine r_goto (pc := 6) (tgt := 10) X dJ9_max_7cf53_6 (by decide) ?_
    exact r_iret (pc := 10) X Z dJ9_max_7cf53_10 rfl

set_option maxRecDepth 100000 in
theorem s_X0_go_j123 {y : LY} {l : Launch} {E : ET} (X : CX y l E cX0_go 3 RX0 (rmd 3)) (Z : ZX E none) (hy : y.1 ≤ (eS E).heap.size) {o : Nat} (ho : 1 ≤ o ∧ o ≤ 11)    (v1 : Int32) (σ : ST) : WW y l E 3 (fun a => QM y E (xV a)) 123 [(0, .ref (ad y o)), (1, .int v1)] [] σ (T_X0_go_j123 o  v1 σ) := by
  unfold T_X0_go_j123
  refine r_aload_n (pc := 123) X dX0_go_123 0 rfl rfl ?_
  refine r_geta (pc := 124) X dX0_go_124 fl_X0_43 (oc_st ho) (by decide) ?_
  refine r_iload_n (pc := 127) X dX0_go_127 1 rfl rfl ?_
  refine r_aload_n (pc := 128) X dX0_go_128 0 rfl rfl ?_
  refine r_geta (pc := 129) X dX0_go_129 fl_X0_43 (oc_st ho) (by decide) ?_
  refine r_iload_n (pc := 132) X dX0_go_132 1 rfl rfl ?_
  refine r_iald (pc := 133) X dX0_go_133 (ar_st ho ar_1_10) (fun x1 => ?_)
  refine r_aload_n (pc := 134) X dX0_go_134 0 rfl rfl ?_
  refine r_geta (pc := 135) X dX0_go_135 fl_X0_40 (oc_st ho) (by decide) ?_
  refine r_iload_n (pc := 138) X dX0_go_138 1 rfl rfl ?_
  refine r_iald (pc := 139) X dX0_go_139 (ar_st ho ar_1_9) (fun x2 => ?_)
  refine r_iconst (pc := 140) X dX0_go_140 kc_1 ?_
  refine r_callsp (pc := 141) X dX0_go_141 cf_X0_toward ml_X0_128 (rf rfl rfl) hy (fun b hb => m_X0_toward hb) rfl rfl (Nat.le_of_ble_eq_true rfl) (fun x3 => ?_)
  refine r_iast (pc := 144) X dX0_go_144 (ar_st ho ar_1_10) (fun σ5 => ?_)
  refine r_aload_n (pc := 145) X dX0_go_145 0 rfl rfl ?_
  refine r_geta (pc := 146) X dX0_go_146 fl_X0_49 (oc_st ho) (by decide) ?_
  refine r_iload_n (pc := 149) X dX0_go_149 1 rfl rfl ?_
  refine r_aload_n (pc := 150) X dX0_go_150 0 rfl rfl ?_
  refine r_geta (pc := 151) X dX0_go_151 fl_X0_49 (oc_st ho) (by decide) ?_
  refine r_iload_n (pc := 154) X dX0_go_154 1 rfl rfl ?_
  refine r_iald (pc := 155) X dX0_go_155 (ar_st ho ar_1_12) (fun x6 => ?_)
  refine r_iconst (pc := 156) X dX0_go_156 kc_1 ?_
  refine r_iadd (pc := 157) X dX0_go_157 ?_
  refine r_bipush (pc := 158) X dX0_go_158 kb_9 ?_
  refine r_callsp (pc := 160) X dX0_go_160 cf_J9_min_7cf53 ml_X0_113 (rf rfl rfl) hy (fun b hb => m_J9_min_7cf53 hb) rfl rfl (Nat.le_of_ble_eq_true rfl) (fun x7 => ?_)
  refine r_iast (pc := 163) X dX0_go_163 (ar_st ho ar_1_12) (fun σ9 => ?_)
  exact r_vret (pc := 164) X Z dX0_go_164 rfl

set_option maxRecDepth 100000 in
theorem m_X0_go {y : LY} {l : Launch} {o : Nat} (ho : 1 ≤ o ∧ o ≤ 11) {a0 : Int32} {σ : ST} {a : ST} (h : T_X0_go o a0 σ = some a) : MU y l yX0_go cX0_go 3 none (rmd 3) [.ref (ad y o), .int a0] σ (xV a) := by
  refine MU.of (φ := xV) h (by decide +kernel) rfl (fun E X Z hy => ?_)
  have X : CX y l E cX0_go 3 RX0 (rmd 3) := X
  show WW y l E 3 _ 0 [(0, .ref (ad y o)), (1, .int a0)] [] σ (T_X0_go o a0 σ)
  unfold T_X0_go
  refine r_aload_n (pc := 0) X dX0_go_0 0 rfl rfl ?_
  refine r_geta (pc := 1) X dX0_go_1 fl_X0_49 (oc_st ho) (by decide) ?_
  refine r_iload_n (pc := 4) X dX0_go_4 1 rfl rfl ?_
  refine r_iald (pc := 5) X dX0_go_5 (ar_st ho ar_1_12) (fun x1 => ?_)
  refine r_if_ne (pc := 6) (tgt := 29) X dX0_go_6 (by decide) ?_ ?_
  · refine r_iload_n (pc := 29) X dX0_go_29 1 rfl rfl ?_
    refine r_aload_n (pc := 30) X dX0_go_30 0 rfl rfl ?_
    refine r_geti (pc := 31) X dX0_go_31 fl_X0_67 (oc_st ho) rfl (fun x2 => ?_)
    refine r_icmp_eq (pc := 34) (tgt := 123) X dX0_go_34 (by decide) ?_ ?_
    · exact s_X0_go_j123 X Z hy ho a0 σ
    · refine r_aload_n (pc := 37) X dX0_go_37 0 rfl rfl ?_
      refine r_iload_n (pc := 38) X dX0_go_38 1 rfl rfl ?_
      refine r_callvp (pc := 39) X dX0_go_39 cf_X0_isLed ml_X0_119 (rf rfl rfl) hy (oc_st ho).1 (hc_0 ho) (fun b hb => m_X0_isLed ho hb) rfl rfl (Nat.le_of_ble_eq_true rfl) (fun x3 => ?_)
      refine r_if_eq (pc := 42) (tgt := 123) X dX0_go_42 (by decide) ?_ ?_
      · exact s_X0_go_j123 X Z hy ho a0 σ
      · refine r_aload_n (pc := 45) X dX0_go_45 0 rfl rfl ?_
        refine r_geta (pc := 46) X dX0_go_46 fl_X0_43 (oc_st ho) (by decide) ?_
        refine r_iload_n (pc := 49) X dX0_go_49 1 rfl rfl ?_
        refine r_iald (pc := 50) X dX0_go_50 (ar_st ho ar_1_10) (fun x5 => ?_)
        refine r_istore_n (pc := 51) (lv' := [(2, .int _), (0, .ref _), (1, .int _)]) X dX0_go_51 rfl (by decide) rfl ?_
        refine r_aload_n (pc := 52) X dX0_go_52 1 rfl rfl ?_
        refine r_geta (pc := 53) X dX0_go_53 fl_X0_43 (oc_st ho) (by decide) ?_
        refine r_iload_n (pc := 56) X dX0_go_56 2 rfl rfl ?_
        refine r_iload_n (pc := 57) X dX0_go_57 0 rfl rfl ?_
        refine r_aload_n (pc := 58) X dX0_go_58 1 rfl rfl ?_
        refine r_aload_n (pc := 59) X dX0_go_59 1 rfl rfl ?_
        refine r_geta (pc := 60) X dX0_go_60 fl_X0_46 (oc_st ho) (by decide) ?_
        refine r_iload_n (pc := 63) X dX0_go_63 2 rfl rfl ?_
        refine r_iald (pc := 64) X dX0_go_64 (ar_st ho ar_1_11) (fun x6 => ?_)
        refine r_iload_n (pc := 65) X dX0_go_65 2 rfl rfl ?_
        refine r_callvp (pc := 66) X dX0_go_66 cf_X0_goalOf ml_X0_122 (rf rfl rfl) hy (oc_st ho).1 (hc_0 ho) (fun b hb => m_X0_goalOf ho hb) rfl rfl (Nat.le_of_ble_eq_true rfl) (fun x7 => ?_)
        refine r_aload_n (pc := 69) X dX0_go_69 1 rfl rfl ?_
        refine r_aload_n (pc := 70) X dX0_go_70 1 rfl rfl ?_
        refine r_geta (pc := 71) X dX0_go_71 fl_X0_46 (oc_st ho) (by decide) ?_
        refine r_iload_n (pc := 74) X dX0_go_74 2 rfl rfl ?_
        refine r_iald (pc := 75) X dX0_go_75 (ar_st ho ar_1_11) (fun x9 => ?_)
        refine r_callvp (pc := 76) X dX0_go_76 cf_X0_paceOf ml_X0_125 (rf rfl rfl) hy (oc_st ho).1 (hc_0 ho) (fun b hb => m_X0_paceOf ho hb) rfl rfl (Nat.le_of_ble_eq_true rfl) (fun x10 => ?_)
        refine r_callsp (pc := 79) X dX0_go_79 cf_X0_toward ml_X0_128 (rf rfl rfl) hy (fun b hb => m_X0_toward hb) rfl rfl (Nat.le_of_ble_eq_true rfl) (fun x12 => ?_)
        refine r_iast (pc := 82) X dX0_go_82 (ar_st ho ar_1_10) (fun σ14 => ?_)
        refine r_aload_n (pc := 83) X dX0_go_83 1 rfl rfl ?_
        refine r_geta (pc := 84) X dX0_go_84 fl_X0_49 (oc_st ho) (by decide) ?_
        refine r_iload_n (pc := 87) X dX0_go_87 2 rfl rfl ?_
        refine r_iconst (pc := 88) X dX0_go_88 kc_0 ?_
        refine r_aload_n (pc := 89) X dX0_go_89 1 rfl rfl ?_
        refine r_geta (pc := 90) X dX0_go_90 fl_X0_49 (oc_st ho) (by decide) ?_
        refine r_iload_n (pc := 93) X dX0_go_93 2 rfl rfl ?_
        refine r_iald (pc := 94) X dX0_go_94 (ar_st ho ar_1_12) (fun x15 => ?_)
        refine r_iload_n (pc := 95) X dX0_go_95 0 rfl rfl ?_
        refine r_aload_n (pc := 96) X dX0_go_96 1 rfl rfl ?_
        refine r_geta (pc := 97) X dX0_go_97 fl_X0_43 (oc_st ho) (by decide) ?_
        refine r_iload_n (pc := 100) X dX0_go_100 2 rfl rfl ?_
        refine r_iald (pc := 101) X dX0_go_101 (ar_st ho ar_1_10) (fun x16 => ?_)
        refine r_callsp (pc := 102) X dX0_go_102 cf_X2_placesApart ml_X0_132 (rf rfl rfl) hy (fun b hb => m_X2_placesApart hb) rfl rfl (Nat.le_of_ble_eq_true rfl) (fun x17 => ?_)
        refine r_isub (pc := 105) X dX0_go_105 ?_
        refine r_callsp (pc := 106) X dX0_go_106 cf_J9_max_7cf53 ml_X0_135 (rf rfl rfl) hy (fun b hb => m_J9_max_7cf53 hb) rfl rfl (Nat.le_of_ble_eq_true rfl) (fun x19 => ?_)
        refine r_iast (pc := 109) X dX0_go_109 (ar_st ho ar_1_12) (fun σ21 => ?_)
        refine r_aload_n (pc := 110) X dX0_go_110 1 rfl rfl ?_
        refine r_geta (pc := 111) X dX0_go_111 fl_X0_58 (oc_st ho) (by decide) ?_
        refine r_iload_n (pc := 114) X dX0_go_114 2 rfl rfl ?_
        refine r_dup2 (pc := 115) X dX0_go_115 rfl rfl ?_
        refine r_iald (pc := 116) X dX0_go_116 (ar_st ho ar_1_15) (fun x22 => ?_)
        refine r_iconst (pc := 117) X dX0_go_117 kc_1 ?_
        refine r_iadd (pc := 118) X dX0_go_118 ?_
        refine r_iast (pc := 119) X dX0_go_119 (ar_st ho ar_1_15) (fun σ23 => ?_)
        refine r_goto (pc := 120) (tgt := 164) X dX0_go_120 (by decide) ?_
        exact r_vret (pc := 164) X Z dX0_go_164 rfl
  · refine r_aload_n (pc := 9) X dX0_go_9 0 rfl rfl ?_
    refine r_geta (pc := 10) X dX0_go_10 fl_X0_49 (oc_st ho) (by decide) ?_
    refine r_iload_n (pc := 13) X dX0_go_13 1 rfl rfl ?_
    refine r_iconst (pc := 14) X dX0_go_14 kc_3 ?_
    refine r_iast (pc := 15) X dX0_go_15 (ar_st ho ar_1_12) (fun σ24 => ?_)
    refine r_aload_n (pc := 16) X dX0_go_16 0 rfl rfl ?_
    refine r_geta (pc := 17) X dX0_go_17 fl_X0_61 (oc_st ho) (by decide) ?_
    refine r_iload_n (pc := 20) X dX0_go_20 1 rfl rfl ?_
    refine r_dup2 (pc := 21) X dX0_go_21 rfl rfl ?_
    refine r_iald (pc := 22) X dX0_go_22 (ar_st ho ar_1_16) (fun x25 => ?_)
    refine r_iconst (pc := 23) X dX0_go_23 kc_1 ?_
    refine r_iadd (pc := 24) X dX0_go_24 ?_
    refine r_iast (pc := 25) X dX0_go_25 (ar_st ho ar_1_16) (fun σ26 => ?_)
    refine r_goto (pc := 26) (tgt := 164) X dX0_go_26 (by decide) ?_
    exact r_vret (pc := 164) X Z dX0_go_164 rfl

set_option maxRecDepth 100000 in
theorem s_X0_growHeld_L2 {y : LY} {l : Launch} {E : ET} (X : CX y l E cX0_growHeld 2 RX0 (rmd 1)) (Z : ZX E none) (hy : y.1 ≤ (eS E).heap.size) {o : Nat} (ho : 1 ≤ o ∧ o ≤ 11)    (n : Nat) : ∀ (v1 : Int32) (σ : ST), WW y l E 2 (fun a => QM y E (xV a)) 2 [(0, .ref (ad y o)), (1, .int v1)] [] σ (T_X0_growHeld_L2 o n v1 σ) := by
  induction n with
  | zero => intros; exact r_none rfl
  | succ n ih =>
    intro v1 σ
    unfold T_X0_growHeld_L2
    refine r_iload_n (pc := 2) X dX0_growHeld_2 1 rfl rfl ?_
    refine r_aload_n (pc := 3) X dX0_growHeld_3 0 rfl rfl ?_
    refine r_geti (pc := 4) X dX0_growHeld_4 fl_X0_9 (oc_st ho) rfl (fun x1 => ?_)
    refine r_icmp_ge (pc := 7) (tgt := 44) X dX0_growHeld_7 (by decide) ?_ ?_
    · exact r_vret (pc := 44) X Z dX0_growHeld_44 rfl
    · refine r_aload_n (pc := 10) X dX0_growHeld_10 0 rfl rfl ?_
      refine r_geta (pc := 11) X dX0_growHeld_11 fl_X0_31 (oc_st ho) (by decide) ?_
      refine r_iload_n (pc := 14) X dX0_growHeld_14 1 rfl rfl ?_
      refine r_iald (pc := 15) X dX0_growHeld_15 (ar_st ho ar_1_6) (fun x2 => ?_)
      refine r_if_lt (pc := 16) (tgt := 38) X dX0_growHeld_16 (by decide) ?_ ?_
      · refine r_iinc (pc := 38) (lv' := [(0, .ref _)]) X dX0_growHeld_38 1 rfl (congrArg (fun z => v1 + z) kc_1) (by decide) rfl (fun x3 => ?_)
        refine r_goto (pc := 41) (tgt := 2) X dX0_growHeld_41 (by decide) ?_
        refine r_sub [1, 0] rfl ?_
        exact ih x3 σ
      · refine r_aload_n (pc := 19) X dX0_growHeld_19 0 rfl rfl ?_
        refine r_geta (pc := 20) X dX0_growHeld_20 fl_X0_28 (oc_st ho) (by decide) ?_
        refine r_iload_n (pc := 23) X dX0_growHeld_23 1 rfl rfl ?_
        refine r_aload_n (pc := 24) X dX0_growHeld_24 0 rfl rfl ?_
        refine r_geta (pc := 25) X dX0_growHeld_25 fl_X0_28 (oc_st ho) (by decide) ?_
        refine r_iload_n (pc := 28) X dX0_growHeld_28 1 rfl rfl ?_
        refine r_iald (pc := 29) X dX0_growHeld_29 (ar_st ho ar_1_5) (fun x4 => ?_)
        refine r_iconst (pc := 30) X dX0_growHeld_30 kc_1 ?_
        refine r_iadd (pc := 31) X dX0_growHeld_31 ?_
        refine r_bipush (pc := 32) X dX0_growHeld_32 kb_99 ?_
        refine r_callsp (pc := 34) X dX0_growHeld_34 cf_J9_min_7cf53 ml_X0_113 (rf rfl rfl) hy (fun b hb => m_J9_min_7cf53 hb) rfl rfl (Nat.le_of_ble_eq_true rfl) (fun x5 => ?_)
        refine r_iast (pc := 37) X dX0_growHeld_37 (ar_st ho ar_1_5) (fun σ7 => ?_)
        refine r_iinc (pc := 38) (lv' := [(0, .ref _)]) X dX0_growHeld_38 1 rfl (congrArg (fun z => v1 + z) kc_1) (by decide) rfl (fun x8 => ?_)
        refine r_goto (pc := 41) (tgt := 2) X dX0_growHeld_41 (by decide) ?_
        refine r_sub [1, 0] rfl ?_
        exact ih x8 σ7

set_option maxRecDepth 100000 in
theorem m_X0_growHeld {y : LY} {l : Launch} {o : Nat} (ho : 1 ≤ o ∧ o ≤ 11)  {σ : ST} {a : ST} (h : T_X0_growHeld o σ = some a) : MU y l yX0_growHeld cX0_growHeld 2 none (rmd 1) [.ref (ad y o)] σ (xV a) := by
  refine MU.of (φ := xV) h (by decide +kernel) rfl (fun E X Z hy => ?_)
  have X : CX y l E cX0_growHeld 2 RX0 (rmd 1) := X
  show WW y l E 2 _ 0 [(0, .ref (ad y o))] [] σ (T_X0_growHeld o σ)
  unfold T_X0_growHeld
  refine r_iconst (pc := 0) X dX0_growHeld_0 kc_0 ?_
  refine r_istore_n (pc := 1) (lv' := [(1, .int _), (0, .ref _)]) X dX0_growHeld_1 rfl (by decide) rfl ?_
  refine r_sub [1, 0] rfl ?_
  exact s_X0_growHeld_L2 X Z hy ho FU 0 σ

set_option maxRecDepth 100000 in
theorem s_X0_countSnaps_L2 {y : LY} {l : Launch} {E : ET} (X : CX y l E cX0_countSnaps 2 RX0 (rmd 1)) (Z : ZX E none) (hy : y.1 ≤ (eS E).heap.size) {o : Nat} (ho : 1 ≤ o ∧ o ≤ 11)    (n : Nat) : ∀ (v1 : Int32) (σ : ST), WW y l E 2 (fun a => QM y E (xV a)) 2 [(0, .ref (ad y o)), (1, .int v1)] [] σ (T_X0_countSnaps_L2 o n v1 σ) := by
  induction n with
  | zero => intros; exact r_none rfl
  | succ n ih =>
    intro v1 σ
    unfold T_X0_countSnaps_L2
    refine r_iload_n (pc := 2) X dX0_countSnaps_2 1 rfl rfl ?_
    refine r_aload_n (pc := 3) X dX0_countSnaps_3 0 rfl rfl ?_
    refine r_geti (pc := 4) X dX0_countSnaps_4 fl_X0_34 (oc_st ho) rfl (fun x1 => ?_)
    refine r_icmp_ge (pc := 7) (tgt := 67) X dX0_countSnaps_7 (by decide) ?_ ?_
    · exact r_vret (pc := 67) X Z dX0_countSnaps_67 rfl
    · refine r_aload_n (pc := 10) X dX0_countSnaps_10 0 rfl rfl ?_
      refine r_aload_n (pc := 11) X dX0_countSnaps_11 0 rfl rfl ?_
      refine r_geta (pc := 12) X dX0_countSnaps_12 fl_X0_46 (oc_st ho) (by decide) ?_
      refine r_iload_n (pc := 15) X dX0_countSnaps_15 1 rfl rfl ?_
      refine r_iald (pc := 16) X dX0_countSnaps_16 (ar_st ho ar_1_11) (fun x2 => ?_)
      refine r_callvp (pc := 17) X dX0_countSnaps_17 cf_X0_hasBag ml_X0_79 (rf rfl rfl) hy (oc_st ho).1 (hc_0 ho) (fun b hb => m_X0_hasBag ho hb) rfl rfl (Nat.le_of_ble_eq_true rfl) (fun x3 => ?_)
      refine r_if_eq (pc := 20) (tgt := 61) X dX0_countSnaps_20 (by decide) ?_ ?_
      · refine r_iinc (pc := 61) (lv' := [(0, .ref _)]) X dX0_countSnaps_61 1 rfl (congrArg (fun z => v1 + z) kc_1) (by decide) rfl (fun x5 => ?_)
        refine r_goto (pc := 64) (tgt := 2) X dX0_countSnaps_64 (by decide) ?_
        refine r_sub [1, 0] rfl ?_
        exact ih x5 σ
      · refine r_aload_n (pc := 23) X dX0_countSnaps_23 0 rfl rfl ?_
        refine r_geta (pc := 24) X dX0_countSnaps_24 fl_X0_15 (oc_st ho) (by decide) ?_
        refine r_aload_n (pc := 27) X dX0_countSnaps_27 0 rfl rfl ?_
        refine r_geta (pc := 28) X dX0_countSnaps_28 fl_X0_46 (oc_st ho) (by decide) ?_
        refine r_iload_n (pc := 31) X dX0_countSnaps_31 1 rfl rfl ?_
        refine r_iald (pc := 32) X dX0_countSnaps_32 (ar_st ho ar_1_11) (fun x6 => ?_)
        refine r_iald (pc := 33) X dX0_countSnaps_33 (ar_st ho ar_1_1) (fun x7 => ?_)
        refine r_iconst (pc := 34) X dX0_countSnaps_34 kc_2 ?_
        refine r_icmp_ne (pc := 35) (tgt := 61) X dX0_countSnaps_35 (by decide) ?_ ?_
        · refine r_iinc (pc := 61) (lv' := [(0, .ref _)]) X dX0_countSnaps_61 1 rfl (congrArg (fun z => v1 + z) kc_1) (by decide) rfl (fun x8 => ?_)
          refine r_goto (pc := 64) (tgt := 2) X dX0_countSnaps_64 (by decide) ?_
          refine r_sub [1, 0] rfl ?_
          exact ih x8 σ
        · refine r_aload_n (pc := 38) X dX0_countSnaps_38 0 rfl rfl ?_
          refine r_geta (pc := 39) X dX0_countSnaps_39 fl_X0_43 (oc_st ho) (by decide) ?_
          refine r_iload_n (pc := 42) X dX0_countSnaps_42 1 rfl rfl ?_
          refine r_iald (pc := 43) X dX0_countSnaps_43 (ar_st ho ar_1_10) (fun x9 => ?_)
          refine r_aload_n (pc := 44) X dX0_countSnaps_44 0 rfl rfl ?_
          refine r_geti (pc := 45) X dX0_countSnaps_45 fl_X0_52 (oc_st ho) rfl (fun x10 => ?_)
          refine r_icmp_ne (pc := 48) (tgt := 61) X dX0_countSnaps_48 (by decide) ?_ ?_
          · refine r_iinc (pc := 61) (lv' := [(0, .ref _)]) X dX0_countSnaps_61 1 rfl (congrArg (fun z => v1 + z) kc_1) (by decide) rfl (fun x11 => ?_)
            refine r_goto (pc := 64) (tgt := 2) X dX0_countSnaps_64 (by decide) ?_
            refine r_sub [1, 0] rfl ?_
            exact ih x11 σ
          · refine r_aload_n (pc := 51) X dX0_countSnaps_51 0 rfl rfl ?_
            refine r_dup (pc := 52) X dX0_countSnaps_52 rfl ?_
            refine r_geti (pc := 53) X dX0_countSnaps_53 fl_X0_64 (oc_st ho) rfl (fun x12 => ?_)
            refine r_iconst (pc := 56) X dX0_countSnaps_56 kc_1 ?_
            refine r_iadd (pc := 57) X dX0_countSnaps_57 ?_
            refine r_puti (pc := 58) X dX0_countSnaps_58 fl_X0_64 fw_0_17 (oc_st ho) rfl (fun σ13 => ?_)
            refine r_iinc (pc := 61) (lv' := [(0, .ref _)]) X dX0_countSnaps_61 1 rfl (congrArg (fun z => v1 + z) kc_1) (by decide) rfl (fun x14 => ?_)
            refine r_goto (pc := 64) (tgt := 2) X dX0_countSnaps_64 (by decide) ?_
            refine r_sub [1, 0] rfl ?_
            exact ih x14 σ13

set_option maxRecDepth 100000 in
theorem m_X0_countSnaps {y : LY} {l : Launch} {o : Nat} (ho : 1 ≤ o ∧ o ≤ 11)  {σ : ST} {a : ST} (h : T_X0_countSnaps o σ = some a) : MU y l yX0_countSnaps cX0_countSnaps 2 none (rmd 1) [.ref (ad y o)] σ (xV a) := by
  refine MU.of (φ := xV) h (by decide +kernel) rfl (fun E X Z hy => ?_)
  have X : CX y l E cX0_countSnaps 2 RX0 (rmd 1) := X
  show WW y l E 2 _ 0 [(0, .ref (ad y o))] [] σ (T_X0_countSnaps o σ)
  unfold T_X0_countSnaps
  refine r_iconst (pc := 0) X dX0_countSnaps_0 kc_0 ?_
  refine r_istore_n (pc := 1) (lv' := [(1, .int _), (0, .ref _)]) X dX0_countSnaps_1 rfl (by decide) rfl ?_
  refine r_sub [1, 0] rfl ?_
  exact s_X0_countSnaps_L2 X Z hy ho FU 0 σ

set_option maxRecDepth 100000 in
theorem s_X0_goHours_L19 {y : LY} {l : Launch} {E : ET} (X : CX y l E cX0_goHours 4 RX0 (rmd 4)) (Z : ZX E none) (hy : y.1 ≤ (eS E).heap.size) {o : Nat} (ho : 1 ≤ o ∧ o ≤ 11)  {K2 : Int32 → Int32 → ST → Option ST} (hK2 : ∀ (v1 : Int32) (v2 : Int32) (σ : ST), WW y l E 4 (fun a => QM y E (xV a)) 2 [(0, .ref (ad y o)), (1, .int v1), (2, .int v2)] [] σ (K2 v1 v2 σ)) (n : Nat) : ∀ (v1 : Int32) (v2 : Int32) (v3 : Int32) (σ : ST), WW y l E 4 (fun a => QM y E (xV a)) 19 [(0, .ref (ad y o)), (1, .int v1), (2, .int v2), (3, .int v3)] [] σ (T_X0_goHours_L19 o K2 n v1 v2 v3 σ) := by
  induction n with
  | zero => intros; exact r_none rfl
  | succ n ih =>
    intro v1 v2 v3 σ
    unfold T_X0_goHours_L19
    refine r_iload_n (pc := 19) X dX0_goHours_19 3 rfl rfl ?_
    refine r_aload_n (pc := 20) X dX0_goHours_20 0 rfl rfl ?_
    refine r_geti (pc := 21) X dX0_goHours_21 fl_X0_34 (oc_st ho) rfl (fun x1 => ?_)
    refine r_icmp_ge (pc := 24) (tgt := 38) X dX0_goHours_24 (by decide) ?_ ?_
    · refine r_aload_n (pc := 38) X dX0_goHours_38 0 rfl rfl ?_
      refine r_callvV (pc := 39) X dX0_goHours_39 cf_X0_growHeld ml_X0_107 (rf rfl rfl) hy (oc_st ho).1 (hc_0 ho) (fun b hb => m_X0_growHeld ho hb) rfl rfl (Nat.le_of_ble_eq_true rfl) (fun σ3 => ?_)
      refine r_aload_n (pc := 42) X dX0_goHours_42 0 rfl rfl ?_
      refine r_callvV (pc := 43) X dX0_goHours_43 cf_X0_countSnaps ml_X0_110 (rf rfl rfl) hy (oc_st ho).1 (hc_0 ho) (fun b hb => m_X0_countSnaps ho hb) rfl rfl (Nat.le_of_ble_eq_true rfl) (fun σ5 => ?_)
      refine r_iinc (pc := 46) (lv' := [(0, .ref _), (1, .int _), (3, .int _)]) X dX0_goHours_46 2 rfl (congrArg (fun z => v2 + z) kc_1) (by decide) rfl (fun x6 => ?_)
      refine r_goto (pc := 49) (tgt := 2) X dX0_goHours_49 (by decide) ?_
      refine r_sub [1, 2, 0] rfl ?_
      exact hK2 v1 x6 σ5
    · refine r_aload_n (pc := 27) X dX0_goHours_27 0 rfl rfl ?_
      refine r_iload_n (pc := 28) X dX0_goHours_28 3 rfl rfl ?_
      refine r_callvV (pc := 29) X dX0_goHours_29 cf_X0_go ml_X0_104 (rf rfl rfl) hy (oc_st ho).1 (hc_0 ho) (fun b hb => m_X0_go ho hb) rfl rfl (Nat.le_of_ble_eq_true rfl) (fun σ8 => ?_)
      refine r_iinc (pc := 32) (lv' := [(0, .ref _), (1, .int _), (2, .int _)]) X dX0_goHours_32 3 rfl (congrArg (fun z => v3 + z) kc_1) (by decide) rfl (fun x9 => ?_)
      refine r_goto (pc := 35) (tgt := 19) X dX0_goHours_35 (by decide) ?_
      refine r_sub [1, 2, 3, 0] rfl ?_
      exact ih v1 v2 x9 σ8

set_option maxRecDepth 100000 in
theorem s_X0_goHours_L2 {y : LY} {l : Launch} {E : ET} (X : CX y l E cX0_goHours 4 RX0 (rmd 4)) (Z : ZX E none) (hy : y.1 ≤ (eS E).heap.size) {o : Nat} (ho : 1 ≤ o ∧ o ≤ 11)    (n : Nat) : ∀ (v1 : Int32) (v2 : Int32) (σ : ST), WW y l E 4 (fun a => QM y E (xV a)) 2 [(0, .ref (ad y o)), (1, .int v1), (2, .int v2)] [] σ (T_X0_goHours_L2 o n v1 v2 σ) := by
  induction n with
  | zero => intros; exact r_none rfl
  | succ n ih =>
    intro v1 v2 σ
    unfold T_X0_goHours_L2
    refine r_iload_n (pc := 2) X dX0_goHours_2 2 rfl rfl ?_
    refine r_iload_n (pc := 3) X dX0_goHours_3 1 rfl rfl ?_
    refine r_icmp_ge (pc := 4) (tgt := 52) X dX0_goHours_4 (by decide) ?_ ?_
    · exact r_vret (pc := 52) X Z dX0_goHours_52 rfl
    · refine r_aload_n (pc := 7) X dX0_goHours_7 0 rfl rfl ?_
      refine r_dup (pc := 8) X dX0_goHours_8 rfl ?_
      refine r_geti (pc := 9) X dX0_goHours_9 fl_X0_55 (oc_st ho) rfl (fun x1 => ?_)
      refine r_iconst (pc := 12) X dX0_goHours_12 kc_1 ?_
      refine r_iadd (pc := 13) X dX0_goHours_13 ?_
      refine r_puti (pc := 14) X dX0_goHours_14 fl_X0_55 fw_0_14 (oc_st ho) rfl (fun σ2 => ?_)
      refine r_iconst (pc := 17) X dX0_goHours_17 kc_0 ?_
      refine r_istore_n (pc := 18) (lv' := [(3, .int _), (0, .ref _), (1, .int _), (2, .int _)]) X dX0_goHours_18 rfl (by decide) rfl ?_
      refine r_sub [1, 2, 3, 0] rfl ?_
      exact s_X0_goHours_L19 X Z hy ho (fun v1 v2 s => ih v1 v2 s) FU v1 v2 0 σ2

set_option maxRecDepth 100000 in
theorem m_X0_goHours {y : LY} {l : Launch} {o : Nat} (ho : 1 ≤ o ∧ o ≤ 11) {a0 : Int32} {σ : ST} {a : ST} (h : T_X0_goHours o a0 σ = some a) : MU y l yX0_goHours cX0_goHours 4 none (rmd 4) [.ref (ad y o), .int a0] σ (xV a) := by
  refine MU.of (φ := xV) h (by decide +kernel) rfl (fun E X Z hy => ?_)
  have X : CX y l E cX0_goHours 4 RX0 (rmd 4) := X
  show WW y l E 4 _ 0 [(0, .ref (ad y o)), (1, .int a0)] [] σ (T_X0_goHours o a0 σ)
  unfold T_X0_goHours
  refine r_iconst (pc := 0) X dX0_goHours_0 kc_0 ?_
  refine r_istore_n (pc := 1) (lv' := [(2, .int _), (0, .ref _), (1, .int _)]) X dX0_goHours_1 rfl (by decide) rfl ?_
  refine r_sub [1, 2, 0] rfl ?_
  exact s_X0_goHours_L2 X Z hy ho FU a0 0 σ

set_option maxRecDepth 100000 in
theorem m_X0_aboveWill {y : LY} {l : Launch} {o : Nat} (ho : 1 ≤ o ∧ o ≤ 11) {a0 : Int32} {σ : ST} {a : Int32} (h : T_X0_aboveWill o σ a0 = some a) : MU y l yX0_aboveWill cX0_aboveWill 2 (some .int) (rmd 2) [.ref (ad y o), .int a0] σ (xp σ a) := by
  refine MU.of (φ := xp σ) h (by decide +kernel) rfl (fun E X Z hy => ?_)
  have X : CX y l E cX0_aboveWill 2 RX0 (rmd 2) := X
  show WW y l E 2 _ 0 [(0, .ref (ad y o)), (1, .int a0)] [] σ (T_X0_aboveWill o σ a0)
  unfold T_X0_aboveWill
  refine r_aload_n (pc := 0) X dX0_aboveWill_0 0 rfl rfl ?_
  refine r_aload_n (pc := 1) X dX0_aboveWill_1 0 rfl rfl ?_
  refine r_geta (pc := 2) X dX0_aboveWill_2 fl_X0_46 (oc_st ho) (by decide) ?_
  refine r_iload_n (pc := 5) X dX0_aboveWill_5 1 rfl rfl ?_
  refine r_iald (pc := 6) X dX0_aboveWill_6 (ar_st ho ar_1_11) (fun x1 => ?_)
  refine r_callvp (pc := 7) X dX0_aboveWill_7 cf_X0_pullOf ml_X0_101 (rf rfl rfl) hy (oc_st ho).1 (hc_0 ho) (fun b hb => m_X0_pullOf ho hb) rfl rfl (Nat.le_of_ble_eq_true rfl) (fun x2 => ?_)
  refine r_aload_n (pc := 10) X dX0_aboveWill_10 0 rfl rfl ?_
  refine r_geta (pc := 11) X dX0_aboveWill_11 fl_X0_37 (oc_st ho) (by decide) ?_
  refine r_iload_n (pc := 14) X dX0_aboveWill_14 1 rfl rfl ?_
  refine r_iald (pc := 15) X dX0_aboveWill_15 (ar_st ho ar_1_8) (fun x4 => ?_)
  refine r_isub (pc := 16) X dX0_aboveWill_16 ?_
  exact r_iret (pc := 17) X Z dX0_aboveWill_17 rfl

set_option maxRecDepth 100000 in
theorem m_X0_leaderOf {y : LY} {l : Launch} {o : Nat} (ho : 1 ≤ o ∧ o ≤ 11) {a0 : Int32} {a1 : Int32} {σ : ST} {a : Int32} (h : T_X0_leaderOf o σ a0 a1 = some a) : MU y l yX0_leaderOf cX0_leaderOf 3 (some .int) (rmd 3) [.ref (ad y o), .int a0, .int a1] σ (xp σ a) := by
  refine MU.of (φ := xp σ) h (by decide +kernel) rfl (fun E X Z hy => ?_)
  have X : CX y l E cX0_leaderOf 3 RX0 (rmd 3) := X
  show WW y l E 3 _ 0 [(0, .ref (ad y o)), (1, .int a0), (2, .int a1)] [] σ (T_X0_leaderOf o σ a0 a1)
  unfold T_X0_leaderOf
  refine r_aload_n (pc := 0) X dX0_leaderOf_0 0 rfl rfl ?_
  refine r_iload_n (pc := 1) X dX0_leaderOf_1 1 rfl rfl ?_
  refine r_callvp (pc := 2) X dX0_leaderOf_2 cf_X0_isLed ml_X0_119 (rf rfl rfl) hy (oc_st ho).1 (hc_0 ho) (fun b hb => m_X0_isLed ho hb) rfl rfl (Nat.le_of_ble_eq_true rfl) (fun x1 => ?_)
  refine r_if_ne (pc := 5) (tgt := 23) X dX0_leaderOf_5 (by decide) ?_ ?_
  · refine r_aload_n (pc := 23) X dX0_leaderOf_23 0 rfl rfl ?_
    refine r_iload_n (pc := 24) X dX0_leaderOf_24 2 rfl rfl ?_
    refine r_callvp (pc := 25) X dX0_leaderOf_25 cf_X0_isLed ml_X0_119 (rf rfl rfl) hy (oc_st ho).1 (hc_0 ho) (fun b hb => m_X0_isLed ho hb) rfl rfl (Nat.le_of_ble_eq_true rfl) (fun x3 => ?_)
    refine r_if_ne (pc := 28) (tgt := 33) X dX0_leaderOf_28 (by decide) ?_ ?_
    · refine r_aload_n (pc := 33) X dX0_leaderOf_33 0 rfl rfl ?_
      refine r_iload_n (pc := 34) X dX0_leaderOf_34 2 rfl rfl ?_
      refine r_callvp (pc := 35) X dX0_leaderOf_35 cf_X0_aboveWill ml_X0_144 (rf rfl rfl) hy (oc_st ho).1 (hc_0 ho) (fun b hb => m_X0_aboveWill ho hb) rfl rfl (Nat.le_of_ble_eq_true rfl) (fun x5 => ?_)
      refine r_aload_n (pc := 38) X dX0_leaderOf_38 0 rfl rfl ?_
      refine r_iload_n (pc := 39) X dX0_leaderOf_39 1 rfl rfl ?_
      refine r_callvp (pc := 40) X dX0_leaderOf_40 cf_X0_aboveWill ml_X0_144 (rf rfl rfl) hy (oc_st ho).1 (hc_0 ho) (fun b hb => m_X0_aboveWill ho hb) rfl rfl (Nat.le_of_ble_eq_true rfl) (fun x7 => ?_)
      refine r_icmp_le (pc := 43) (tgt := 50) X dX0_leaderOf_43 (by decide) ?_ ?_
      · refine r_iload_n (pc := 50) X dX0_leaderOf_50 1 rfl rfl ?_
        exact r_iret (pc := 51) X Z dX0_leaderOf_51 rfl
      · refine r_iload_n (pc := 46) X dX0_leaderOf_46 2 rfl rfl ?_
        refine r_goto (pc := 47) (tgt := 51) X dX0_leaderOf_47 (by decide) ?_
        exact r_iret (pc := 51) X Z dX0_leaderOf_51 rfl
    · refine r_iload_n (pc := 31) X dX0_leaderOf_31 1 rfl rfl ?_
      exact r_iret (pc := 32) X Z dX0_leaderOf_32 rfl
  · refine r_aload_n (pc := 8) X dX0_leaderOf_8 0 rfl rfl ?_
    refine r_iload_n (pc := 9) X dX0_leaderOf_9 2 rfl rfl ?_
    refine r_callvp (pc := 10) X dX0_leaderOf_10 cf_X0_isLed ml_X0_119 (rf rfl rfl) hy (oc_st ho).1 (hc_0 ho) (fun b hb => m_X0_isLed ho hb) rfl rfl (Nat.le_of_ble_eq_true rfl) (fun x9 => ?_)
    refine r_if_eq (pc := 13) (tgt := 20) X dX0_leaderOf_13 (by decide) ?_ ?_
    · refine r_bipush (pc := 20) X dX0_leaderOf_20 kb_m9 ?_
      exact r_iret (pc := 22) X Z dX0_leaderOf_22 rfl
    · refine r_iload_n (pc := 16) X dX0_leaderOf_16 2 rfl rfl ?_
      refine r_goto (pc := 17) (tgt := 22) X dX0_leaderOf_17 (by decide) ?_
      exact r_iret (pc := 22) X Z dX0_leaderOf_22 rfl

set_option maxRecDepth 100000 in
theorem s_X0_goArmInArm_j70 {y : LY} {l : Launch} {E : ET} (X : CX y l E cX0_goArmInArm 5 RX0 (rmd 4)) (Z : ZX E none) (hy : y.1 ≤ (eS E).heap.size) {o : Nat} (ho : 1 ≤ o ∧ o ≤ 11)    (v1 : Int32) (v2 : Int32) (s0 : Int32) (σ : ST) : WW y l E 5 (fun a => QM y E (xV a)) 70 [(0, .ref (ad y o)), (1, .int v1), (2, .int v2)] [.int s0] σ (T_X0_goArmInArm_j70 o  v1 v2 s0 σ) := by
  unfold T_X0_goArmInArm_j70
  refine r_istore (pc := 70) (lv' := [(4, .int _), (0, .ref _), (1, .int _), (2, .int _)]) X dX0_goArmInArm_70 (by decide) rfl ?_
  refine r_aload_n (pc := 72) X dX0_goArmInArm_72 1 rfl rfl ?_
  refine r_geta (pc := 73) X dX0_goArmInArm_73 fl_X0_43 (oc_st ho) (by decide) ?_
  refine r_iload_n (pc := 76) X dX0_goArmInArm_76 2 rfl rfl ?_
  refine r_iload (pc := 77) X dX0_goArmInArm_77 0 rfl ?_
  refine r_iast (pc := 79) X dX0_goArmInArm_79 (ar_st ho ar_1_10) (fun σ1 => ?_)
  refine r_aload_n (pc := 80) X dX0_goArmInArm_80 1 rfl rfl ?_
  refine r_geta (pc := 81) X dX0_goArmInArm_81 fl_X0_43 (oc_st ho) (by decide) ?_
  refine r_iload_n (pc := 84) X dX0_goArmInArm_84 3 rfl rfl ?_
  refine r_iload (pc := 85) X dX0_goArmInArm_85 0 rfl ?_
  refine r_iast (pc := 87) X dX0_goArmInArm_87 (ar_st ho ar_1_10) (fun σ2 => ?_)
  exact r_vret (pc := 88) X Z dX0_goArmInArm_88 rfl

set_option maxRecDepth 100000 in
theorem m_X0_goArmInArm {y : LY} {l : Launch} {o : Nat} (ho : 1 ≤ o ∧ o ≤ 11) {a0 : Int32} {a1 : Int32} {σ : ST} {a : ST} (h : T_X0_goArmInArm o a0 a1 σ = some a) : MU y l yX0_goArmInArm cX0_goArmInArm 5 none (rmd 4) [.ref (ad y o), .int a0, .int a1] σ (xV a) := by
  refine MU.of (φ := xV) h (by decide +kernel) rfl (fun E X Z hy => ?_)
  have X : CX y l E cX0_goArmInArm 5 RX0 (rmd 4) := X
  show WW y l E 5 _ 0 [(0, .ref (ad y o)), (1, .int a0), (2, .int a1)] [] σ (T_X0_goArmInArm o a0 a1 σ)
  unfold T_X0_goArmInArm
  refine r_aload_n (pc := 0) X dX0_goArmInArm_0 0 rfl rfl ?_
  refine r_dup (pc := 1) X dX0_goArmInArm_1 rfl ?_
  refine r_geti (pc := 2) X dX0_goArmInArm_2 fl_X0_55 (oc_st ho) rfl (fun x1 => ?_)
  refine r_iconst (pc := 5) X dX0_goArmInArm_5 kc_1 ?_
  refine r_iadd (pc := 6) X dX0_goArmInArm_6 ?_
  refine r_puti (pc := 7) X dX0_goArmInArm_7 fl_X0_55 fw_0_14 (oc_st ho) rfl (fun σ2 => ?_)
  refine r_aload_n (pc := 10) X dX0_goArmInArm_10 0 rfl rfl ?_
  refine r_iload_n (pc := 11) X dX0_goArmInArm_11 1 rfl rfl ?_
  refine r_iload_n (pc := 12) X dX0_goArmInArm_12 2 rfl rfl ?_
  refine r_callvp (pc := 13) X dX0_goArmInArm_13 cf_X0_leaderOf ml_X0_141 (rf rfl rfl) hy (oc_st ho).1 (hc_0 ho) (fun b hb => m_X0_leaderOf ho hb) rfl rfl (Nat.le_of_ble_eq_true rfl) (fun x3 => ?_)
  refine r_istore_n (pc := 16) (lv' := [(3, .int _), (0, .ref _), (1, .int _), (2, .int _)]) X dX0_goArmInArm_16 rfl (by decide) rfl ?_
  refine r_iload_n (pc := 17) X dX0_goArmInArm_17 0 rfl rfl ?_
  refine r_if_ge (pc := 18) (tgt := 40) X dX0_goArmInArm_18 (by decide) ?_ ?_
  · refine r_aload_n (pc := 40) X dX0_goArmInArm_40 1 rfl rfl ?_
    refine r_geta (pc := 41) X dX0_goArmInArm_41 fl_X0_43 (oc_st ho) (by decide) ?_
    refine r_iload_n (pc := 44) X dX0_goArmInArm_44 2 rfl rfl ?_
    refine r_iald (pc := 45) X dX0_goArmInArm_45 (ar_st ho ar_1_10) (fun x5 => ?_)
    refine r_aload_n (pc := 46) X dX0_goArmInArm_46 1 rfl rfl ?_
    refine r_aload_n (pc := 47) X dX0_goArmInArm_47 1 rfl rfl ?_
    refine r_geta (pc := 48) X dX0_goArmInArm_48 fl_X0_46 (oc_st ho) (by decide) ?_
    refine r_iload_n (pc := 51) X dX0_goArmInArm_51 0 rfl rfl ?_
    refine r_iald (pc := 52) X dX0_goArmInArm_52 (ar_st ho ar_1_11) (fun x6 => ?_)
    refine r_iload_n (pc := 53) X dX0_goArmInArm_53 0 rfl rfl ?_
    refine r_callvp (pc := 54) X dX0_goArmInArm_54 cf_X0_goalOf ml_X0_122 (rf rfl rfl) hy (oc_st ho).1 (hc_0 ho) (fun b hb => m_X0_goalOf ho hb) rfl rfl (Nat.le_of_ble_eq_true rfl) (fun x7 => ?_)
    refine r_aload_n (pc := 57) X dX0_goArmInArm_57 1 rfl rfl ?_
    refine r_aload_n (pc := 58) X dX0_goArmInArm_58 1 rfl rfl ?_
    refine r_geta (pc := 59) X dX0_goArmInArm_59 fl_X0_46 (oc_st ho) (by decide) ?_
    refine r_iload_n (pc := 62) X dX0_goArmInArm_62 0 rfl rfl ?_
    refine r_iald (pc := 63) X dX0_goArmInArm_63 (ar_st ho ar_1_11) (fun x9 => ?_)
    refine r_callvp (pc := 64) X dX0_goArmInArm_64 cf_X0_paceOf ml_X0_125 (rf rfl rfl) hy (oc_st ho).1 (hc_0 ho) (fun b hb => m_X0_paceOf ho hb) rfl rfl (Nat.le_of_ble_eq_true rfl) (fun x10 => ?_)
    refine r_callsp (pc := 67) X dX0_goArmInArm_67 cf_X0_toward ml_X0_128 (rf rfl rfl) hy (fun b hb => m_X0_toward hb) rfl rfl (Nat.le_of_ble_eq_true rfl) (fun x12 => ?_)
    refine r_sub [1, 2, 3] rfl ?_
    exact s_X0_goArmInArm_j70 X Z hy ho a0 a1 x12 σ2
  · refine r_aload_n (pc := 21) X dX0_goArmInArm_21 1 rfl rfl ?_
    refine r_geta (pc := 22) X dX0_goArmInArm_22 fl_X0_43 (oc_st ho) (by decide) ?_
    refine r_iload_n (pc := 25) X dX0_goArmInArm_25 2 rfl rfl ?_
    refine r_iald (pc := 26) X dX0_goArmInArm_26 (ar_st ho ar_1_10) (fun x14 => ?_)
    refine r_aload_n (pc := 27) X dX0_goArmInArm_27 1 rfl rfl ?_
    refine r_geta (pc := 28) X dX0_goArmInArm_28 fl_X0_40 (oc_st ho) (by decide) ?_
    refine r_iload_n (pc := 31) X dX0_goArmInArm_31 2 rfl rfl ?_
    refine r_iald (pc := 32) X dX0_goArmInArm_32 (ar_st ho ar_1_9) (fun x15 => ?_)
    refine r_iconst (pc := 33) X dX0_goArmInArm_33 kc_1 ?_
    refine r_callsp (pc := 34) X dX0_goArmInArm_34 cf_X0_toward ml_X0_128 (rf rfl rfl) hy (fun b hb => m_X0_toward hb) rfl rfl (Nat.le_of_ble_eq_true rfl) (fun x16 => ?_)
    refine r_goto (pc := 37) (tgt := 70) X dX0_goArmInArm_37 (by decide) ?_
    refine r_sub [1, 2, 3] rfl ?_
    exact s_X0_goArmInArm_j70 X Z hy ho a0 a1 x16 σ2

set_option maxRecDepth 100000 in
theorem s_X0_bagsHad_L4 {y : LY} {l : Launch} {E : ET} (X : CX y l E cX0_bagsHad 3 RX0 (rmd 0)) (Z : ZX E (some .int)) (hy : y.1 ≤ (eS E).heap.size) {o : Nat} (ho : 1 ≤ o ∧ o ≤ 11) {σ : ST}   (n : Nat) : ∀ (v1 : Int32) (v2 : Int32), WW y l E 3 (fun a => QM y E (xp σ a)) 4 [(0, .ref (ad y o)), (1, .int v1), (2, .int v2)] [] σ (T_X0_bagsHad_L4 o σ n v1 v2) := by
  induction n with
  | zero => intros; exact r_none rfl
  | succ n ih =>
    intro v1 v2
    unfold T_X0_bagsHad_L4
    refine r_iload_n (pc := 4) X dX0_bagsHad_4 2 rfl rfl ?_
    refine r_aload_n (pc := 5) X dX0_bagsHad_5 0 rfl rfl ?_
    refine r_geti (pc := 6) X dX0_bagsHad_6 fl_X0_9 (oc_st ho) rfl (fun x1 => ?_)
    refine r_icmp_ge (pc := 9) (tgt := 30) X dX0_bagsHad_9 (by decide) ?_ ?_
    · refine r_iload_n (pc := 30) X dX0_bagsHad_30 1 rfl rfl ?_
      exact r_iret (pc := 31) X Z dX0_bagsHad_31 rfl
    · refine r_aload_n (pc := 12) X dX0_bagsHad_12 0 rfl rfl ?_
      refine r_geta (pc := 13) X dX0_bagsHad_13 fl_X0_31 (oc_st ho) (by decide) ?_
      refine r_iload_n (pc := 16) X dX0_bagsHad_16 2 rfl rfl ?_
      refine r_iald (pc := 17) X dX0_bagsHad_17 (ar_st ho ar_1_6) (fun x2 => ?_)
      refine r_if_lt (pc := 18) (tgt := 24) X dX0_bagsHad_18 (by decide) ?_ ?_
      · refine r_iinc (pc := 24) (lv' := [(0, .ref _), (1, .int _)]) X dX0_bagsHad_24 2 rfl (congrArg (fun z => v2 + z) kc_1) (by decide) rfl (fun x3 => ?_)
        refine r_goto (pc := 27) (tgt := 4) X dX0_bagsHad_27 (by decide) ?_
        refine r_sub [1, 2, 0] rfl ?_
        exact ih v1 x3
      · refine r_iinc (pc := 21) (lv' := [(0, .ref _), (2, .int _)]) X dX0_bagsHad_21 1 rfl (congrArg (fun z => v1 + z) kc_1) (by decide) rfl (fun x4 => ?_)
        refine r_iinc (pc := 24) (lv' := [(1, .int _), (0, .ref _)]) X dX0_bagsHad_24 2 rfl (congrArg (fun z => v2 + z) kc_1) (by decide) rfl (fun x5 => ?_)
        refine r_goto (pc := 27) (tgt := 4) X dX0_bagsHad_27 (by decide) ?_
        refine r_sub [2, 1, 0] rfl ?_
        exact ih x4 x5

set_option maxRecDepth 100000 in
theorem m_X0_bagsHad {y : LY} {l : Launch} {o : Nat} (ho : 1 ≤ o ∧ o ≤ 11)  {σ : ST} {a : Int32} (h : T_X0_bagsHad o σ = some a) : MU y l yX0_bagsHad cX0_bagsHad 3 (some .int) (rmd 0) [.ref (ad y o)] σ (xp σ a) := by
  refine MU.of (φ := xp σ) h (by decide +kernel) rfl (fun E X Z hy => ?_)
  have X : CX y l E cX0_bagsHad 3 RX0 (rmd 0) := X
  show WW y l E 3 _ 0 [(0, .ref (ad y o))] [] σ (T_X0_bagsHad o σ)
  unfold T_X0_bagsHad
  refine r_iconst (pc := 0) X dX0_bagsHad_0 kc_0 ?_
  refine r_istore_n (pc := 1) (lv' := [(1, .int _), (0, .ref _)]) X dX0_bagsHad_1 rfl (by decide) rfl ?_
  refine r_iconst (pc := 2) X dX0_bagsHad_2 kc_0 ?_
  refine r_istore_n (pc := 3) (lv' := [(2, .int _), (1, .int _), (0, .ref _)]) X dX0_bagsHad_3 rfl (by decide) rfl ?_
  refine r_sub [2, 1, 0] rfl ?_
  exact s_X0_bagsHad_L4 X Z hy ho FU 0 0

set_option maxRecDepth 100000 in
theorem s_X0_allBreath_L4 {y : LY} {l : Launch} {E : ET} (X : CX y l E cX0_allBreath 3 RX0 (rmd 0)) (Z : ZX E (some .int)) (hy : y.1 ≤ (eS E).heap.size) {o : Nat} (ho : 1 ≤ o ∧ o ≤ 11) {σ : ST}   (n : Nat) : ∀ (v1 : Int32) (v2 : Int32), WW y l E 3 (fun a => QM y E (xp σ a)) 4 [(0, .ref (ad y o)), (1, .int v1), (2, .int v2)] [] σ (T_X0_allBreath_L4 o σ n v1 v2) := by
  induction n with
  | zero => intros; exact r_none rfl
  | succ n ih =>
    intro v1 v2
    unfold T_X0_allBreath_L4
    refine r_iload_n (pc := 4) X dX0_allBreath_4 2 rfl rfl ?_
    refine r_aload_n (pc := 5) X dX0_allBreath_5 0 rfl rfl ?_
    refine r_geti (pc := 6) X dX0_allBreath_6 fl_X0_34 (oc_st ho) rfl (fun x1 => ?_)
    refine r_icmp_ge (pc := 9) (tgt := 27) X dX0_allBreath_9 (by decide) ?_ ?_
    · refine r_iload_n (pc := 27) X dX0_allBreath_27 1 rfl rfl ?_
      exact r_iret (pc := 28) X Z dX0_allBreath_28 rfl
    · refine r_iload_n (pc := 12) X dX0_allBreath_12 1 rfl rfl ?_
      refine r_aload_n (pc := 13) X dX0_allBreath_13 0 rfl rfl ?_
      refine r_geta (pc := 14) X dX0_allBreath_14 fl_X0_49 (oc_st ho) (by decide) ?_
      refine r_iload_n (pc := 17) X dX0_allBreath_17 2 rfl rfl ?_
      refine r_iald (pc := 18) X dX0_allBreath_18 (ar_st ho ar_1_12) (fun x2 => ?_)
      refine r_iadd (pc := 19) X dX0_allBreath_19 ?_
      refine r_vl (fun x3 => ?_)
      refine r_istore_n (pc := 20) (lv' := [(1, .int _), (0, .ref _), (2, .int _)]) X dX0_allBreath_20 rfl (by decide) rfl ?_
      refine r_iinc (pc := 21) (lv' := [(1, .int _), (0, .ref _)]) X dX0_allBreath_21 2 rfl (congrArg (fun z => v2 + z) kc_1) (by decide) rfl (fun x4 => ?_)
      refine r_goto (pc := 24) (tgt := 4) X dX0_allBreath_24 (by decide) ?_
      refine r_sub [2, 1, 0] rfl ?_
      exact ih x3 x4

set_option maxRecDepth 100000 in
theorem m_X0_allBreath {y : LY} {l : Launch} {o : Nat} (ho : 1 ≤ o ∧ o ≤ 11)  {σ : ST} {a : Int32} (h : T_X0_allBreath o σ = some a) : MU y l yX0_allBreath cX0_allBreath 3 (some .int) (rmd 0) [.ref (ad y o)] σ (xp σ a) := by
  refine MU.of (φ := xp σ) h (by decide +kernel) rfl (fun E X Z hy => ?_)
  have X : CX y l E cX0_allBreath 3 RX0 (rmd 0) := X
  show WW y l E 3 _ 0 [(0, .ref (ad y o))] [] σ (T_X0_allBreath o σ)
  unfold T_X0_allBreath
  refine r_iconst (pc := 0) X dX0_allBreath_0 kc_0 ?_
  refine r_istore_n (pc := 1) (lv' := [(1, .int _), (0, .ref _)]) X dX0_allBreath_1 rfl (by decide) rfl ?_
  refine r_iconst (pc := 2) X dX0_allBreath_2 kc_0 ?_
  refine r_istore_n (pc := 3) (lv' := [(2, .int _), (1, .int _), (0, .ref _)]) X dX0_allBreath_3 rfl (by decide) rfl ?_
  refine r_sub [2, 1, 0] rfl ?_
  exact s_X0_allBreath_L4 X Z hy ho FU 0 0

set_option maxRecDepth 100000 in
theorem s_X0_ledOnes_L4 {y : LY} {l : Launch} {E : ET} (X : CX y l E cX0_ledOnes 3 RX0 (rmd 3)) (Z : ZX E (some .int)) (hy : y.1 ≤ (eS E).heap.size) {o : Nat} (ho : 1 ≤ o ∧ o ≤ 11) {σ : ST}   (n : Nat) : ∀ (v1 : Int32) (v2 : Int32), WW y l E 3 (fun a => QM y E (xp σ a)) 4 [(0, .ref (ad y o)), (1, .int v1), (2, .int v2)] [] σ (T_X0_ledOnes_L4 o σ n v1 v2) := by
  induction n with
  | zero => intros; exact r_none rfl
  | succ n ih =>
    intro v1 v2
    unfold T_X0_ledOnes_L4
    refine r_iload_n (pc := 4) X dX0_ledOnes_4 2 rfl rfl ?_
    refine r_aload_n (pc := 5) X dX0_ledOnes_5 0 rfl rfl ?_
    refine r_geti (pc := 6) X dX0_ledOnes_6 fl_X0_34 (oc_st ho) rfl (fun x1 => ?_)
    refine r_icmp_ge (pc := 9) (tgt := 29) X dX0_ledOnes_9 (by decide) ?_ ?_
    · refine r_iload_n (pc := 29) X dX0_ledOnes_29 1 rfl rfl ?_
      exact r_iret (pc := 30) X Z dX0_ledOnes_30 rfl
    · refine r_aload_n (pc := 12) X dX0_ledOnes_12 0 rfl rfl ?_
      refine r_iload_n (pc := 13) X dX0_ledOnes_13 2 rfl rfl ?_
      refine r_callvp (pc := 14) X dX0_ledOnes_14 cf_X0_isLed ml_X0_119 (rf rfl rfl) hy (oc_st ho).1 (hc_0 ho) (fun b hb => m_X0_isLed ho hb) rfl rfl (Nat.le_of_ble_eq_true rfl) (fun x2 => ?_)
      refine r_if_eq (pc := 17) (tgt := 23) X dX0_ledOnes_17 (by decide) ?_ ?_
      · refine r_iinc (pc := 23) (lv' := [(0, .ref _), (1, .int _)]) X dX0_ledOnes_23 2 rfl (congrArg (fun z => v2 + z) kc_1) (by decide) rfl (fun x4 => ?_)
        refine r_goto (pc := 26) (tgt := 4) X dX0_ledOnes_26 (by decide) ?_
        refine r_sub [1, 2, 0] rfl ?_
        exact ih v1 x4
      · refine r_iinc (pc := 20) (lv' := [(0, .ref _), (2, .int _)]) X dX0_ledOnes_20 1 rfl (congrArg (fun z => v1 + z) kc_1) (by decide) rfl (fun x5 => ?_)
        refine r_iinc (pc := 23) (lv' := [(1, .int _), (0, .ref _)]) X dX0_ledOnes_23 2 rfl (congrArg (fun z => v2 + z) kc_1) (by decide) rfl (fun x6 => ?_)
        refine r_goto (pc := 26) (tgt := 4) X dX0_ledOnes_26 (by decide) ?_
        refine r_sub [2, 1, 0] rfl ?_
        exact ih x5 x6

set_option maxRecDepth 100000 in
theorem m_X0_ledOnes {y : LY} {l : Launch} {o : Nat} (ho : 1 ≤ o ∧ o ≤ 11)  {σ : ST} {a : Int32} (h : T_X0_ledOnes o σ = some a) : MU y l yX0_ledOnes cX0_ledOnes 3 (some .int) (rmd 3) [.ref (ad y o)] σ (xp σ a) := by
  refine MU.of (φ := xp σ) h (by decide +kernel) rfl (fun E X Z hy => ?_)
  have X : CX y l E cX0_ledOnes 3 RX0 (rmd 3) := X
  show WW y l E 3 _ 0 [(0, .ref (ad y o))] [] σ (T_X0_ledOnes o σ)
  unfold T_X0_ledOnes
  refine r_iconst (pc := 0) X dX0_ledOnes_0 kc_0 ?_
  refine r_istore_n (pc := 1) (lv' := [(1, .int _), (0, .ref _)]) X dX0_ledOnes_1 rfl (by decide) rfl ?_
  refine r_iconst (pc := 2) X dX0_ledOnes_2 kc_0 ?_
  refine r_istore_n (pc := 3) (lv' := [(2, .int _), (1, .int _), (0, .ref _)]) X dX0_ledOnes_3 rfl (by decide) rfl ?_
  refine r_sub [2, 1, 0] rfl ?_
  exact s_X0_ledOnes_L4 X Z hy ho FU 0 0

set_option maxRecDepth 100000 in
theorem s_X0_allLedHours_L4 {y : LY} {l : Launch} {E : ET} (X : CX y l E cX0_allLedHours 3 RX0 (rmd 0)) (Z : ZX E (some .int)) (hy : y.1 ≤ (eS E).heap.size) {o : Nat} (ho : 1 ≤ o ∧ o ≤ 11) {σ : ST}   (n : Nat) : ∀ (v1 : Int32) (v2 : Int32), WW y l E 3 (fun a => QM y E (xp σ a)) 4 [(0, .ref (ad y o)), (1, .int v1), (2, .int v2)] [] σ (T_X0_allLedHours_L4 o σ n v1 v2) := by
  induction n with
  | zero => intros; exact r_none rfl
  | succ n ih =>
    intro v1 v2
    unfold T_X0_allLedHours_L4
    refine r_iload_n (pc := 4) X dX0_allLedHours_4 2 rfl rfl ?_
    refine r_aload_n (pc := 5) X dX0_allLedHours_5 0 rfl rfl ?_
    refine r_geti (pc := 6) X dX0_allLedHours_6 fl_X0_34 (oc_st ho) rfl (fun x1 => ?_)
    refine r_icmp_ge (pc := 9) (tgt := 27) X dX0_allLedHours_9 (by decide) ?_ ?_
    · refine r_iload_n (pc := 27) X dX0_allLedHours_27 1 rfl rfl ?_
      exact r_iret (pc := 28) X Z dX0_allLedHours_28 rfl
    · refine r_iload_n (pc := 12) X dX0_allLedHours_12 1 rfl rfl ?_
      refine r_aload_n (pc := 13) X dX0_allLedHours_13 0 rfl rfl ?_
      refine r_geta (pc := 14) X dX0_allLedHours_14 fl_X0_58 (oc_st ho) (by decide) ?_
      refine r_iload_n (pc := 17) X dX0_allLedHours_17 2 rfl rfl ?_
      refine r_iald (pc := 18) X dX0_allLedHours_18 (ar_st ho ar_1_15) (fun x2 => ?_)
      refine r_iadd (pc := 19) X dX0_allLedHours_19 ?_
      refine r_vl (fun x3 => ?_)
      refine r_istore_n (pc := 20) (lv' := [(1, .int _), (0, .ref _), (2, .int _)]) X dX0_allLedHours_20 rfl (by decide) rfl ?_
      refine r_iinc (pc := 21) (lv' := [(1, .int _), (0, .ref _)]) X dX0_allLedHours_21 2 rfl (congrArg (fun z => v2 + z) kc_1) (by decide) rfl (fun x4 => ?_)
      refine r_goto (pc := 24) (tgt := 4) X dX0_allLedHours_24 (by decide) ?_
      refine r_sub [2, 1, 0] rfl ?_
      exact ih x3 x4

set_option maxRecDepth 100000 in
theorem m_X0_allLedHours {y : LY} {l : Launch} {o : Nat} (ho : 1 ≤ o ∧ o ≤ 11)  {σ : ST} {a : Int32} (h : T_X0_allLedHours o σ = some a) : MU y l yX0_allLedHours cX0_allLedHours 3 (some .int) (rmd 0) [.ref (ad y o)] σ (xp σ a) := by
  refine MU.of (φ := xp σ) h (by decide +kernel) rfl (fun E X Z hy => ?_)
  have X : CX y l E cX0_allLedHours 3 RX0 (rmd 0) := X
  show WW y l E 3 _ 0 [(0, .ref (ad y o))] [] σ (T_X0_allLedHours o σ)
  unfold T_X0_allLedHours
  refine r_iconst (pc := 0) X dX0_allLedHours_0 kc_0 ?_
  refine r_istore_n (pc := 1) (lv' := [(1, .int _), (0, .ref _)]) X dX0_allLedHours_1 rfl (by decide) rfl ?_
  refine r_iconst (pc := 2) X dX0_allLedHours_2 kc_0 ?_
  refine r_istore_n (pc := 3) (lv' := [(2, .int _), (1, .int _), (0, .ref _)]) X dX0_allLedHours_3 rfl (by decide) rfl ?_
  refine r_sub [2, 1, 0] rfl ?_
  exact s_X0_allLedHours_L4 X Z hy ho FU 0 0

set_option maxRecDepth 100000 in
theorem s_X0_allAtOnePlace_L2 {y : LY} {l : Launch} {E : ET} (X : CX y l E cX0_allAtOnePlace 2 RX0 (rmd 0)) (Z : ZX E (some .boolean)) (hy : y.1 ≤ (eS E).heap.size) {o : Nat} (ho : 1 ≤ o ∧ o ≤ 11) {σ : ST}   (n : Nat) : ∀ (v1 : Int32), WW y l E 2 (fun a => QM y E (xp σ a)) 2 [(0, .ref (ad y o)), (1, .int v1)] [] σ (T_X0_allAtOnePlace_L2 o σ n v1) := by
  induction n with
  | zero => intros; exact r_none rfl
  | succ n ih =>
    intro v1
    unfold T_X0_allAtOnePlace_L2
    refine r_iload_n (pc := 2) X dX0_allAtOnePlace_2 1 rfl rfl ?_
    refine r_aload_n (pc := 3) X dX0_allAtOnePlace_3 0 rfl rfl ?_
    refine r_geti (pc := 4) X dX0_allAtOnePlace_4 fl_X0_34 (oc_st ho) rfl (fun x1 => ?_)
    refine r_icmp_ge (pc := 7) (tgt := 33) X dX0_allAtOnePlace_7 (by decide) ?_ ?_
    · refine r_iconst (pc := 33) X dX0_allAtOnePlace_33 kc_1 ?_
      exact r_zret (pc := 34) X Z dX0_allAtOnePlace_34 rfl (Or.inr rfl)
    · refine r_aload_n (pc := 10) X dX0_allAtOnePlace_10 0 rfl rfl ?_
      refine r_geta (pc := 11) X dX0_allAtOnePlace_11 fl_X0_43 (oc_st ho) (by decide) ?_
      refine r_iload_n (pc := 14) X dX0_allAtOnePlace_14 1 rfl rfl ?_
      refine r_iald (pc := 15) X dX0_allAtOnePlace_15 (ar_st ho ar_1_10) (fun x2 => ?_)
      refine r_aload_n (pc := 16) X dX0_allAtOnePlace_16 0 rfl rfl ?_
      refine r_geta (pc := 17) X dX0_allAtOnePlace_17 fl_X0_43 (oc_st ho) (by decide) ?_
      refine r_iconst (pc := 20) X dX0_allAtOnePlace_20 kc_0 ?_
      refine r_iald (pc := 21) X dX0_allAtOnePlace_21 (ar_st ho ar_1_10) (fun x3 => ?_)
      refine r_icmp_eq (pc := 22) (tgt := 27) X dX0_allAtOnePlace_22 (by decide) ?_ ?_
      · refine r_iinc (pc := 27) (lv' := [(0, .ref _)]) X dX0_allAtOnePlace_27 1 rfl (congrArg (fun z => v1 + z) kc_1) (by decide) rfl (fun x4 => ?_)
        refine r_goto (pc := 30) (tgt := 2) X dX0_allAtOnePlace_30 (by decide) ?_
        refine r_sub [1, 0] rfl ?_
        exact ih x4
      · refine r_iconst (pc := 25) X dX0_allAtOnePlace_25 kc_0 ?_
        exact r_zret (pc := 26) X Z dX0_allAtOnePlace_26 rfl (Or.inl rfl)

set_option maxRecDepth 100000 in
theorem m_X0_allAtOnePlace {y : LY} {l : Launch} {o : Nat} (ho : 1 ≤ o ∧ o ≤ 11)  {σ : ST} {a : Int32} (h : T_X0_allAtOnePlace o σ = some a) : MU y l yX0_allAtOnePlace cX0_allAtOnePlace 2 (some .boolean) (rmd 0) [.ref (ad y o)] σ (xp σ a) := by
  refine MU.of (φ := xp σ) h (by decide +kernel) rfl (fun E X Z hy => ?_)
  have X : CX y l E cX0_allAtOnePlace 2 RX0 (rmd 0) := X
  show WW y l E 2 _ 0 [(0, .ref (ad y o))] [] σ (T_X0_allAtOnePlace o σ)
  unfold T_X0_allAtOnePlace
  refine r_iconst (pc := 0) X dX0_allAtOnePlace_0 kc_1 ?_
  refine r_istore_n (pc := 1) (lv' := [(1, .int _), (0, .ref _)]) X dX0_allAtOnePlace_1 rfl (by decide) rfl ?_
  refine r_sub [1, 0] rfl ?_
  exact s_X0_allAtOnePlace_L2 X Z hy ho FU 1

set_option maxRecDepth 100000 in
theorem s_X0_rankOfBearer_L4 {y : LY} {l : Launch} {E : ET} (X : CX y l E cX0_rankOfBearer 4 RX0 (rmd 0)) (Z : ZX E (some .int)) (hy : y.1 ≤ (eS E).heap.size) {o : Nat} (ho : 1 ≤ o ∧ o ≤ 11) {σ : ST}   (n : Nat) : ∀ (v1 : Int32) (v2 : Int32) (v3 : Int32), WW y l E 4 (fun a => QM y E (xp σ a)) 4 [(0, .ref (ad y o)), (1, .int v1), (2, .int v2), (3, .int v3)] [] σ (T_X0_rankOfBearer_L4 o σ n v1 v2 v3) := by
  induction n with
  | zero => intros; exact r_none rfl
  | succ n ih =>
    intro v1 v2 v3
    unfold T_X0_rankOfBearer_L4
    refine r_iload_n (pc := 4) X dX0_rankOfBearer_4 3 rfl rfl ?_
    refine r_aload_n (pc := 5) X dX0_rankOfBearer_5 0 rfl rfl ?_
    refine r_geti (pc := 6) X dX0_rankOfBearer_6 fl_X0_34 (oc_st ho) rfl (fun x1 => ?_)
    refine r_icmp_ge (pc := 9) (tgt := 56) X dX0_rankOfBearer_9 (by decide) ?_ ?_
    · refine r_iload_n (pc := 56) X dX0_rankOfBearer_56 2 rfl rfl ?_
      exact r_iret (pc := 57) X Z dX0_rankOfBearer_57 rfl
    · refine r_aload_n (pc := 12) X dX0_rankOfBearer_12 0 rfl rfl ?_
      refine r_geta (pc := 13) X dX0_rankOfBearer_13 fl_X0_37 (oc_st ho) (by decide) ?_
      refine r_iload_n (pc := 16) X dX0_rankOfBearer_16 3 rfl rfl ?_
      refine r_iald (pc := 17) X dX0_rankOfBearer_17 (ar_st ho ar_1_8) (fun x2 => ?_)
      refine r_aload_n (pc := 18) X dX0_rankOfBearer_18 0 rfl rfl ?_
      refine r_geta (pc := 19) X dX0_rankOfBearer_19 fl_X0_37 (oc_st ho) (by decide) ?_
      refine r_iload_n (pc := 22) X dX0_rankOfBearer_22 1 rfl rfl ?_
      refine r_iald (pc := 23) X dX0_rankOfBearer_23 (ar_st ho ar_1_8) (fun x3 => ?_)
      refine r_icmp_lt (pc := 24) (tgt := 47) X dX0_rankOfBearer_24 (by decide) ?_ ?_
      · refine r_iinc (pc := 47) (lv' := [(0, .ref _), (1, .int _), (3, .int _)]) X dX0_rankOfBearer_47 2 rfl (congrArg (fun z => v2 + z) kc_1) (by decide) rfl (fun x4 => ?_)
        refine r_iinc (pc := 50) (lv' := [(2, .int _), (0, .ref _), (1, .int _)]) X dX0_rankOfBearer_50 3 rfl (congrArg (fun z => v3 + z) kc_1) (by decide) rfl (fun x5 => ?_)
        refine r_goto (pc := 53) (tgt := 4) X dX0_rankOfBearer_53 (by decide) ?_
        refine r_sub [2, 3, 1, 0] rfl ?_
        exact ih v1 x4 x5
      · refine r_aload_n (pc := 27) X dX0_rankOfBearer_27 0 rfl rfl ?_
        refine r_geta (pc := 28) X dX0_rankOfBearer_28 fl_X0_37 (oc_st ho) (by decide) ?_
        refine r_iload_n (pc := 31) X dX0_rankOfBearer_31 3 rfl rfl ?_
        refine r_iald (pc := 32) X dX0_rankOfBearer_32 (ar_st ho ar_1_8) (fun x6 => ?_)
        refine r_aload_n (pc := 33) X dX0_rankOfBearer_33 0 rfl rfl ?_
        refine r_geta (pc := 34) X dX0_rankOfBearer_34 fl_X0_37 (oc_st ho) (by decide) ?_
        refine r_iload_n (pc := 37) X dX0_rankOfBearer_37 1 rfl rfl ?_
        refine r_iald (pc := 38) X dX0_rankOfBearer_38 (ar_st ho ar_1_8) (fun x7 => ?_)
        refine r_icmp_ne (pc := 39) (tgt := 50) X dX0_rankOfBearer_39 (by decide) ?_ ?_
        · refine r_iinc (pc := 50) (lv' := [(0, .ref _), (1, .int _), (2, .int _)]) X dX0_rankOfBearer_50 3 rfl (congrArg (fun z => v3 + z) kc_1) (by decide) rfl (fun x8 => ?_)
          refine r_goto (pc := 53) (tgt := 4) X dX0_rankOfBearer_53 (by decide) ?_
          refine r_sub [1, 2, 3, 0] rfl ?_
          exact ih v1 v2 x8
        · refine r_iload_n (pc := 42) X dX0_rankOfBearer_42 3 rfl rfl ?_
          refine r_iload_n (pc := 43) X dX0_rankOfBearer_43 1 rfl rfl ?_
          refine r_icmp_ge (pc := 44) (tgt := 50) X dX0_rankOfBearer_44 (by decide) ?_ ?_
          · refine r_iinc (pc := 50) (lv' := [(0, .ref _), (1, .int _), (2, .int _)]) X dX0_rankOfBearer_50 3 rfl (congrArg (fun z => v3 + z) kc_1) (by decide) rfl (fun x9 => ?_)
            refine r_goto (pc := 53) (tgt := 4) X dX0_rankOfBearer_53 (by decide) ?_
            refine r_sub [1, 2, 3, 0] rfl ?_
            exact ih v1 v2 x9
          · refine r_iinc (pc := 47) (lv' := [(0, .ref _), (1, .int _), (3, .int _)]) X dX0_rankOfBearer_47 2 rfl (congrArg (fun z => v2 + z) kc_1) (by decide) rfl (fun x10 => ?_)
            refine r_iinc (pc := 50) (lv' := [(2, .int _), (0, .ref _), (1, .int _)]) X dX0_rankOfBearer_50 3 rfl (congrArg (fun z => v3 + z) kc_1) (by decide) rfl (fun x11 => ?_)
            refine r_goto (pc := 53) (tgt := 4) X dX0_rankOfBearer_53 (by decide) ?_
            refine r_sub [2, 3, 1, 0] rfl ?_
            exact ih v1 x10 x11

set_option maxRecDepth 100000 in
theorem m_X0_rankOfBearer {y : LY} {l : Launch} {o : Nat} (ho : 1 ≤ o ∧ o ≤ 11) {a0 : Int32} {σ : ST} {a : Int32} (h : T_X0_rankOfBearer o σ a0 = some a) : MU y l yX0_rankOfBearer cX0_rankOfBearer 4 (some .int) (rmd 0) [.ref (ad y o), .int a0] σ (xp σ a) := by
  refine MU.of (φ := xp σ) h (by decide +kernel) rfl (fun E X Z hy => ?_)
  have X : CX y l E cX0_rankOfBearer 4 RX0 (rmd 0) := X
  show WW y l E 4 _ 0 [(0, .ref (ad y o)), (1, .int a0)] [] σ (T_X0_rankOfBearer o σ a0)
  unfold T_X0_rankOfBearer
  refine r_iconst (pc := 0) X dX0_rankOfBearer_0 kc_0 ?_
  refine r_istore_n (pc := 1) (lv' := [(2, .int _), (0, .ref _), (1, .int _)]) X dX0_rankOfBearer_1 rfl (by decide) rfl ?_
  refine r_iconst (pc := 2) X dX0_rankOfBearer_2 kc_0 ?_
  refine r_istore_n (pc := 3) (lv' := [(3, .int _), (2, .int _), (0, .ref _), (1, .int _)]) X dX0_rankOfBearer_3 rfl (by decide) rfl ?_
  refine r_sub [2, 3, 1, 0] rfl ?_
  exact s_X0_rankOfBearer_L4 X Z hy ho FU a0 0 0

set_option maxRecDepth 100000 in
theorem s_X0_bearerRanked_L2 {y : LY} {l : Launch} {E : ET} (X : CX y l E cX0_bearerRanked 3 RX0 (rmd 1)) (Z : ZX E (some .int)) (hy : y.1 ≤ (eS E).heap.size) {o : Nat} (ho : 1 ≤ o ∧ o ≤ 11) {σ : ST}   (n : Nat) : ∀ (v1 : Int32) (v2 : Int32), WW y l E 3 (fun a => QM y E (xp σ a)) 2 [(0, .ref (ad y o)), (1, .int v1), (2, .int v2)] [] σ (T_X0_bearerRanked_L2 o σ n v1 v2) := by
  induction n with
  | zero => intros; exact r_none rfl
  | succ n ih =>
    intro v1 v2
    unfold T_X0_bearerRanked_L2
    refine r_iload_n (pc := 2) X dX0_bearerRanked_2 2 rfl rfl ?_
    refine r_aload_n (pc := 3) X dX0_bearerRanked_3 0 rfl rfl ?_
    refine r_geti (pc := 4) X dX0_bearerRanked_4 fl_X0_34 (oc_st ho) rfl (fun x1 => ?_)
    refine r_icmp_ge (pc := 7) (tgt := 27) X dX0_bearerRanked_7 (by decide) ?_ ?_
    · refine r_bipush (pc := 27) X dX0_bearerRanked_27 kb_m9 ?_
      exact r_iret (pc := 29) X Z dX0_bearerRanked_29 rfl
    · refine r_aload_n (pc := 10) X dX0_bearerRanked_10 0 rfl rfl ?_
      refine r_iload_n (pc := 11) X dX0_bearerRanked_11 2 rfl rfl ?_
      refine r_callvp (pc := 12) X dX0_bearerRanked_12 cf_X0_rankOfBearer ml_X0_147 (rf rfl rfl) hy (oc_st ho).1 (hc_0 ho) (fun b hb => m_X0_rankOfBearer ho hb) rfl rfl (Nat.le_of_ble_eq_true rfl) (fun x2 => ?_)
      refine r_iload_n (pc := 15) X dX0_bearerRanked_15 1 rfl rfl ?_
      refine r_icmp_ne (pc := 16) (tgt := 21) X dX0_bearerRanked_16 (by decide) ?_ ?_
      · refine r_iinc (pc := 21) (lv' := [(0, .ref _), (1, .int _)]) X dX0_bearerRanked_21 2 rfl (congrArg (fun z => v2 + z) kc_1) (by decide) rfl (fun x4 => ?_)
        refine r_goto (pc := 24) (tgt := 2) X dX0_bearerRanked_24 (by decide) ?_
        refine r_sub [1, 2, 0] rfl ?_
        exact ih v1 x4
      · refine r_iload_n (pc := 19) X dX0_bearerRanked_19 2 rfl rfl ?_
        exact r_iret (pc := 20) X Z dX0_bearerRanked_20 rfl

set_option maxRecDepth 100000 in
theorem m_X0_bearerRanked {y : LY} {l : Launch} {o : Nat} (ho : 1 ≤ o ∧ o ≤ 11) {a0 : Int32} {σ : ST} {a : Int32} (h : T_X0_bearerRanked o σ a0 = some a) : MU y l yX0_bearerRanked cX0_bearerRanked 3 (some .int) (rmd 1) [.ref (ad y o), .int a0] σ (xp σ a) := by
  refine MU.of (φ := xp σ) h (by decide +kernel) rfl (fun E X Z hy => ?_)
  have X : CX y l E cX0_bearerRanked 3 RX0 (rmd 1) := X
  show WW y l E 3 _ 0 [(0, .ref (ad y o)), (1, .int a0)] [] σ (T_X0_bearerRanked o σ a0)
  unfold T_X0_bearerRanked
  refine r_iconst (pc := 0) X dX0_bearerRanked_0 kc_0 ?_
  refine r_istore_n (pc := 1) (lv' := [(2, .int _), (0, .ref _), (1, .int _)]) X dX0_bearerRanked_1 rfl (by decide) rfl ?_
  refine r_sub [1, 2, 0] rfl ?_
  exact s_X0_bearerRanked_L2 X Z hy ho FU a0 0

set_option maxRecDepth 100000 in
theorem m_J6_compare_7cf53 {y : LY} {l : Launch}  {a0 : Int32} {a1 : Int32} {σ : ST} {a : Int32} (h : T_J6_compare_7cf53 σ a0 a1 = some a) : MU y l yJ6_compare_7cf53 cJ6_compare_7cf53 2 (some .int) (rmd 0) [.int a0, .int a1] σ (xp σ a) := by
  refine MU.of (φ := xp σ) h (by decide +kernel) rfl (fun E X Z hy => ?_)
  have X : CX y l E cJ6_compare_7cf53 2 RJ6 (rmd 0) := X
  show WW y l E 2 _ 0 [(0, .int a0), (1, .int a1)] [] σ (T_J6_compare_7cf53 σ a0 a1)
  unfold T_J6_compare_7cf53
  refine r_iload_n (pc := 0) X dJ6_compare_7cf53_0 0 rfl rfl ?_
  refine r_iload_n (pc := 1) X dJ6_compare_7cf53_1 1 rfl rfl ?_
  refine r_icmp_ge (pc := 2) (tgt := 9) X dJ6_compare_7cf53_2 (by decide) ?_ ?_
  · refine r_iload_n (pc := 9) X dJ6_compare_7cf53_9 0 rfl rfl ?_
    refine r_iload_n (pc := 10) X dJ6_compare_7cf53_10 1 rfl rfl ?_
    refine r_icmp_ne (pc := 11) (tgt := 18) X dJ6_compare_7cf53_11 (by decide) ?_ ?_
    · refine r_iconst (pc := 18) X dJ6_compare_7cf53_18 kc_1 ?_
      exact r_iret (pc := 19) X Z dJ6_compare_7cf53_19 rfl
    · refine r_iconst (pc := 14) X dJ6_compare_7cf53_14 kc_0 ?_
      refine r_goto (pc := 15) (tgt := 19) X dJ6_compare_7cf53_15 (by decide) ?_
      exact r_iret (pc := 19) X Z dJ6_compare_7cf53_19 rfl
  · refine r_iconst (pc := 5) X dJ6_compare_7cf53_5 kc_m1 ?_
    refine r_goto (pc := 6) (tgt := 19) X dJ6_compare_7cf53_6 (by decide) ?_
    exact r_iret (pc := 19) X Z dJ6_compare_7cf53_19 rfl

set_option maxRecDepth 100000 in
theorem s_X0_rankOfBag_L4 {y : LY} {l : Launch} {E : ET} (X : CX y l E cX0_rankOfBag 5 RX0 (rmd 2)) (Z : ZX E (some .int)) (hy : y.1 ≤ (eS E).heap.size) {o : Nat} (ho : 1 ≤ o ∧ o ≤ 11) {σ : ST}   (n : Nat) : ∀ (v1 : Int32) (v2 : Int32) (v3 : Int32), WW y l E 5 (fun a => QM y E (xp σ a)) 4 [(0, .ref (ad y o)), (1, .int v1), (2, .int v2), (3, .int v3)] [] σ (T_X0_rankOfBag_L4 o σ n v1 v2 v3) := by
  induction n with
  | zero => intros; exact r_none rfl
  | succ n ih =>
    intro v1 v2 v3
    unfold T_X0_rankOfBag_L4
    refine r_iload_n (pc := 4) X dX0_rankOfBag_4 3 rfl rfl ?_
    refine r_aload_n (pc := 5) X dX0_rankOfBag_5 0 rfl rfl ?_
    refine r_geti (pc := 6) X dX0_rankOfBag_6 fl_X0_9 (oc_st ho) rfl (fun x1 => ?_)
    refine r_icmp_ge (pc := 9) (tgt := 51) X dX0_rankOfBag_9 (by decide) ?_ ?_
    · refine r_iload_n (pc := 51) X dX0_rankOfBag_51 2 rfl rfl ?_
      exact r_iret (pc := 52) X Z dX0_rankOfBag_52 rfl
    · refine r_aload_n (pc := 12) X dX0_rankOfBag_12 0 rfl rfl ?_
      refine r_iload_n (pc := 13) X dX0_rankOfBag_13 3 rfl rfl ?_
      refine r_callvp (pc := 14) X dX0_rankOfBag_14 cf_X0_plainPullOf ml_X0_150 (rf rfl rfl) hy (oc_st ho).1 (hc_0 ho) (fun b hb => m_X0_plainPullOf ho hb) rfl rfl (Nat.le_of_ble_eq_true rfl) (fun x2 => ?_)
      refine r_aload_n (pc := 17) X dX0_rankOfBag_17 0 rfl rfl ?_
      refine r_iload_n (pc := 18) X dX0_rankOfBag_18 1 rfl rfl ?_
      refine r_callvp (pc := 19) X dX0_rankOfBag_19 cf_X0_plainPullOf ml_X0_150 (rf rfl rfl) hy (oc_st ho).1 (hc_0 ho) (fun b hb => m_X0_plainPullOf ho hb) rfl rfl (Nat.le_of_ble_eq_true rfl) (fun x4 => ?_)
      refine r_callsp (pc := 22) X dX0_rankOfBag_22 cf_J6_compare_7cf53 ml_X0_153 (rf rfl rfl) hy (fun b hb => m_J6_compare_7cf53 hb) rfl rfl (Nat.le_of_ble_eq_true rfl) (fun x6 => ?_)
      refine r_istore (pc := 25) (lv' := [(4, .int _), (0, .ref _), (1, .int _), (2, .int _), (3, .int _)]) X dX0_rankOfBag_25 (by decide) rfl ?_
      refine r_iload (pc := 27) X dX0_rankOfBag_27 0 rfl ?_
      refine r_if_lt (pc := 29) (tgt := 42) X dX0_rankOfBag_29 (by decide) ?_ ?_
      · refine r_iinc (pc := 42) (lv' := [(4, .int _), (0, .ref _), (1, .int _), (3, .int _)]) X dX0_rankOfBag_42 3 rfl (congrArg (fun z => v2 + z) kc_1) (by decide) rfl (fun x8 => ?_)
        refine r_iinc (pc := 45) (lv' := [(2, .int _), (4, .int _), (0, .ref _), (1, .int _)]) X dX0_rankOfBag_45 4 rfl (congrArg (fun z => v3 + z) kc_1) (by decide) rfl (fun x9 => ?_)
        refine r_goto (pc := 48) (tgt := 4) X dX0_rankOfBag_48 (by decide) ?_
        refine r_sub [3, 4, 1, 0] rfl ?_
        exact ih v1 x8 x9
      · refine r_iload (pc := 32) X dX0_rankOfBag_32 0 rfl ?_
        refine r_if_ne (pc := 34) (tgt := 45) X dX0_rankOfBag_34 (by decide) ?_ ?_
        · refine r_iinc (pc := 45) (lv' := [(4, .int _), (0, .ref _), (1, .int _), (2, .int _)]) X dX0_rankOfBag_45 4 rfl (congrArg (fun z => v3 + z) kc_1) (by decide) rfl (fun x10 => ?_)
          refine r_goto (pc := 48) (tgt := 4) X dX0_rankOfBag_48 (by decide) ?_
          refine r_sub [2, 3, 4, 0] rfl ?_
          exact ih v1 v2 x10
        · refine r_iload_n (pc := 37) X dX0_rankOfBag_37 4 rfl rfl ?_
          refine r_iload_n (pc := 38) X dX0_rankOfBag_38 2 rfl rfl ?_
          refine r_icmp_ge (pc := 39) (tgt := 45) X dX0_rankOfBag_39 (by decide) ?_ ?_
          · refine r_iinc (pc := 45) (lv' := [(4, .int _), (0, .ref _), (1, .int _), (2, .int _)]) X dX0_rankOfBag_45 4 rfl (congrArg (fun z => v3 + z) kc_1) (by decide) rfl (fun x11 => ?_)
            refine r_goto (pc := 48) (tgt := 4) X dX0_rankOfBag_48 (by decide) ?_
            refine r_sub [2, 3, 4, 0] rfl ?_
            exact ih v1 v2 x11
          · refine r_iinc (pc := 42) (lv' := [(4, .int _), (0, .ref _), (1, .int _), (3, .int _)]) X dX0_rankOfBag_42 3 rfl (congrArg (fun z => v2 + z) kc_1) (by decide) rfl (fun x12 => ?_)
            refine r_iinc (pc := 45) (lv' := [(2, .int _), (4, .int _), (0, .ref _), (1, .int _)]) X dX0_rankOfBag_45 4 rfl (congrArg (fun z => v3 + z) kc_1) (by decide) rfl (fun x13 => ?_)
            refine r_goto (pc := 48) (tgt := 4) X dX0_rankOfBag_48 (by decide) ?_
            refine r_sub [3, 4, 1, 0] rfl ?_
            exact ih v1 x12 x13

set_option maxRecDepth 100000 in
theorem m_X0_rankOfBag {y : LY} {l : Launch} {o : Nat} (ho : 1 ≤ o ∧ o ≤ 11) {a0 : Int32} {σ : ST} {a : Int32} (h : T_X0_rankOfBag o σ a0 = some a) : MU y l yX0_rankOfBag cX0_rankOfBag 5 (some .int) (rmd 2) [.ref (ad y o), .int a0] σ (xp σ a) := by
  refine MU.of (φ := xp σ) h (by decide +kernel) rfl (fun E X Z hy => ?_)
  have X : CX y l E cX0_rankOfBag 5 RX0 (rmd 2) := X
  show WW y l E 5 _ 0 [(0, .ref (ad y o)), (1, .int a0)] [] σ (T_X0_rankOfBag o σ a0)
  unfold T_X0_rankOfBag
  refine r_iconst (pc := 0) X dX0_rankOfBag_0 kc_0 ?_
  refine r_istore_n (pc := 1) (lv' := [(2, .int _), (0, .ref _), (1, .int _)]) X dX0_rankOfBag_1 rfl (by decide) rfl ?_
  refine r_iconst (pc := 2) X dX0_rankOfBag_2 kc_0 ?_
  refine r_istore_n (pc := 3) (lv' := [(3, .int _), (2, .int _), (0, .ref _), (1, .int _)]) X dX0_rankOfBag_3 rfl (by decide) rfl ?_
  refine r_sub [2, 3, 1, 0] rfl ?_
  exact s_X0_rankOfBag_L4 X Z hy ho FU a0 0 0

set_option maxRecDepth 100000 in
theorem s_X0_bagRanked_L2 {y : LY} {l : Launch} {E : ET} (X : CX y l E cX0_bagRanked 3 RX0 (rmd 3)) (Z : ZX E (some .int)) (hy : y.1 ≤ (eS E).heap.size) {o : Nat} (ho : 1 ≤ o ∧ o ≤ 11) {σ : ST}   (n : Nat) : ∀ (v1 : Int32) (v2 : Int32), WW y l E 3 (fun a => QM y E (xp σ a)) 2 [(0, .ref (ad y o)), (1, .int v1), (2, .int v2)] [] σ (T_X0_bagRanked_L2 o σ n v1 v2) := by
  induction n with
  | zero => intros; exact r_none rfl
  | succ n ih =>
    intro v1 v2
    unfold T_X0_bagRanked_L2
    refine r_iload_n (pc := 2) X dX0_bagRanked_2 2 rfl rfl ?_
    refine r_aload_n (pc := 3) X dX0_bagRanked_3 0 rfl rfl ?_
    refine r_geti (pc := 4) X dX0_bagRanked_4 fl_X0_9 (oc_st ho) rfl (fun x1 => ?_)
    refine r_icmp_ge (pc := 7) (tgt := 27) X dX0_bagRanked_7 (by decide) ?_ ?_
    · refine r_bipush (pc := 27) X dX0_bagRanked_27 kb_m9 ?_
      exact r_iret (pc := 29) X Z dX0_bagRanked_29 rfl
    · refine r_aload_n (pc := 10) X dX0_bagRanked_10 0 rfl rfl ?_
      refine r_iload_n (pc := 11) X dX0_bagRanked_11 2 rfl rfl ?_
      refine r_callvp (pc := 12) X dX0_bagRanked_12 cf_X0_rankOfBag ml_X0_158 (rf rfl rfl) hy (oc_st ho).1 (hc_0 ho) (fun b hb => m_X0_rankOfBag ho hb) rfl rfl (Nat.le_of_ble_eq_true rfl) (fun x2 => ?_)
      refine r_iload_n (pc := 15) X dX0_bagRanked_15 1 rfl rfl ?_
      refine r_icmp_ne (pc := 16) (tgt := 21) X dX0_bagRanked_16 (by decide) ?_ ?_
      · refine r_iinc (pc := 21) (lv' := [(0, .ref _), (1, .int _)]) X dX0_bagRanked_21 2 rfl (congrArg (fun z => v2 + z) kc_1) (by decide) rfl (fun x4 => ?_)
        refine r_goto (pc := 24) (tgt := 2) X dX0_bagRanked_24 (by decide) ?_
        refine r_sub [1, 2, 0] rfl ?_
        exact ih v1 x4
      · refine r_iload_n (pc := 19) X dX0_bagRanked_19 2 rfl rfl ?_
        exact r_iret (pc := 20) X Z dX0_bagRanked_20 rfl

set_option maxRecDepth 100000 in
theorem m_X0_bagRanked {y : LY} {l : Launch} {o : Nat} (ho : 1 ≤ o ∧ o ≤ 11) {a0 : Int32} {σ : ST} {a : Int32} (h : T_X0_bagRanked o σ a0 = some a) : MU y l yX0_bagRanked cX0_bagRanked 3 (some .int) (rmd 3) [.ref (ad y o), .int a0] σ (xp σ a) := by
  refine MU.of (φ := xp σ) h (by decide +kernel) rfl (fun E X Z hy => ?_)
  have X : CX y l E cX0_bagRanked 3 RX0 (rmd 3) := X
  show WW y l E 3 _ 0 [(0, .ref (ad y o)), (1, .int a0)] [] σ (T_X0_bagRanked o σ a0)
  unfold T_X0_bagRanked
  refine r_iconst (pc := 0) X dX0_bagRanked_0 kc_0 ?_
  refine r_istore_n (pc := 1) (lv' := [(2, .int _), (0, .ref _), (1, .int _)]) X dX0_bagRanked_1 rfl (by decide) rfl ?_
  refine r_sub [1, 2, 0] rfl ?_
  exact s_X0_bagRanked_L2 X Z hy ho FU a0 0

set_option maxRecDepth 100000 in
theorem s_X1_start_L21 {y : LY} {l : Launch} {E : ET} (X : CX y l E cX1_start 4 RX1 (rmd 1)) (Z : ZX E none) (hy : y.1 ≤ (eS E).heap.size)     (n : Nat) : ∀ (v3 : Int32) (σ : ST), WW y l E 4 (fun a => QM y E (xV a)) 21 [(0, .ref (ad y 12)), (3, .int v3)] [] σ (T_X1_start_L21  n v3 σ) := by
  induction n with
  | zero => intros; exact r_none rfl
  | succ n ih =>
    intro v3 σ
    unfold T_X1_start_L21
    refine r_iload_n (pc := 21) X dX1_start_21 1 rfl rfl ?_
    refine r_aload_n (pc := 22) X dX1_start_22 0 rfl rfl ?_
    refine r_geti (pc := 23) X dX1_start_23 fl_X1_22 oc_12 rfl (fun x1 => ?_)
    refine r_icmp_ge (pc := 26) (tgt := 50) X dX1_start_26 (by decide) ?_ ?_
    · exact r_vret (pc := 50) X Z dX1_start_50 rfl
    · refine r_aload_n (pc := 29) X dX1_start_29 0 rfl rfl ?_
      refine r_dup (pc := 30) X dX1_start_30 rfl ?_
      refine r_geti (pc := 31) X dX1_start_31 fl_X1_25 oc_12 rfl (fun x2 => ?_)
      refine r_aload_n (pc := 34) X dX1_start_34 0 rfl rfl ?_
      refine r_geti (pc := 35) X dX1_start_35 fl_X1_18 oc_12 rfl (fun x3 => ?_)
      refine r_iconst (pc := 38) X dX1_start_38 kc_1 ?_
      refine r_iadd (pc := 39) X dX1_start_39 ?_
      refine r_imul (pc := 40) X dX1_start_40 ?_
      refine r_puti (pc := 41) X dX1_start_41 fl_X1_25 fw_1_4 oc_12 rfl (fun σ4 => ?_)
      refine r_iinc (pc := 44) (lv' := [(0, .ref _)]) X dX1_start_44 1 rfl (congrArg (fun z => v3 + z) kc_1) (by decide) rfl (fun x5 => ?_)
      refine r_goto (pc := 47) (tgt := 21) X dX1_start_47 (by decide) ?_
      refine r_sub [1, 0] rfl ?_
      exact ih x5 σ4

set_option maxRecDepth 100000 in
theorem m_X1_start {y : LY} {l : Launch}  {a0 : Int32} {a1 : Int32} {σ : ST} {a : ST} (h : T_X1_start a0 a1 σ = some a) : MU y l yX1_start cX1_start 4 none (rmd 1) [.ref (ad y 12), .int a0, .int a1] σ (xV a) := by
  refine MU.of (φ := xV) h (by decide +kernel) rfl (fun E X Z hy => ?_)
  have X : CX y l E cX1_start 4 RX1 (rmd 1) := X
  show WW y l E 4 _ 0 [(0, .ref (ad y 12)), (1, .int a0), (2, .int a1)] [] σ (T_X1_start a0 a1 σ)
  unfold T_X1_start
  refine r_aload_n (pc := 0) X dX1_start_0 0 rfl rfl ?_
  refine r_iload_n (pc := 1) X dX1_start_1 1 rfl rfl ?_
  refine r_puti (pc := 2) X dX1_start_2 fl_X1_18 fw_1_2 oc_12 rfl (fun σ1 => ?_)
  refine r_aload_n (pc := 5) X dX1_start_5 0 rfl rfl ?_
  refine r_iload_n (pc := 6) X dX1_start_6 2 rfl rfl ?_
  refine r_iconst (pc := 7) X dX1_start_7 kc_4 ?_
  refine r_callsp (pc := 8) X dX1_start_8 cf_J9_min_7cf53 ml_X1_28 (rf rfl rfl) hy (fun b hb => m_J9_min_7cf53 hb) rfl rfl (Nat.le_of_ble_eq_true rfl) (fun x2 => ?_)
  refine r_puti (pc := 11) X dX1_start_11 fl_X1_22 fw_1_3 oc_12 rfl (fun σ4 => ?_)
  refine r_aload_n (pc := 14) X dX1_start_14 0 rfl rfl ?_
  refine r_iconst (pc := 15) X dX1_start_15 kc_1 ?_
  refine r_puti (pc := 16) X dX1_start_16 fl_X1_25 fw_1_4 oc_12 rfl (fun σ5 => ?_)
  refine r_iconst (pc := 19) X dX1_start_19 kc_0 ?_
  refine r_istore_n (pc := 20) (lv' := [(3, .int _), (0, .ref _), (1, .int _), (2, .int _)]) X dX1_start_20 rfl (by decide) rfl ?_
  refine r_sub [1, 0] rfl ?_
  exact s_X1_start_L21 X Z hy FU 0 σ5

set_option maxRecDepth 100000 in
theorem s_X1_decode_j70 {y : LY} {l : Launch} {E : ET} (X : CX y l E cX1_decode 8 RX1 (rmd 1)) (Z : ZX E (some .boolean)) (hy : y.1 ≤ (eS E).heap.size)   {K27 : Int32 → Int32 → Int32 → Int32 → Int32 → ST → Option (Int32 × ST)} (hK27 : ∀ (v2 : Int32) (v3 : Int32) (v4 : Int32) (v5 : Int32) (v6 : Int32) (σ : ST), WW y l E 8 (fun a => QM y E (xI a)) 27 [(0, .ref (ad y 12)), (2, .int v2), (3, .int v3), (4, .int v4), (5, .int v5), (6, .int v6)] [] σ (K27 v2 v3 v4 v5 v6 σ)) (v2 : Int32) (v3 : Int32) (v4 : Int32) (v5 : Int32) (v6 : Int32) (v7 : Int32) (σ : ST) : WW y l E 8 (fun a => QM y E (xI a)) 70 [(0, .ref (ad y 12)), (2, .int v2), (3, .int v3), (4, .int v4), (5, .int v5), (6, .int v6), (7, .int v7)] [] σ (T_X1_decode_j70 K27  v2 v3 v4 v5 v6 v7 σ) := by
  unfold T_X1_decode_j70
  refine r_iload_n (pc := 70) X dX1_decode_70 2 rfl rfl ?_
  refine r_iconst (pc := 71) X dX1_decode_71 kc_1 ?_
  refine r_iload (pc := 72) X dX1_decode_72 6 rfl ?_
  refine r_ishl (pc := 74) X dX1_decode_74 rfl ?_
  refine r_ior (pc := 75) X dX1_decode_75 ?_
  refine r_vl (fun x1 => ?_)
  refine r_istore_n (pc := 76) (lv' := [(3, .int _), (0, .ref _), (2, .int _), (4, .int _), (5, .int _), (6, .int _), (7, .int _)]) X dX1_decode_76 rfl (by decide) rfl ?_
  refine r_aload_n (pc := 77) X dX1_decode_77 1 rfl rfl ?_
  refine r_geta (pc := 78) X dX1_decode_78 fl_X1_9 oc_12 (by decide) ?_
  refine r_iload (pc := 81) X dX1_decode_81 5 rfl ?_
  refine r_iload (pc := 83) X dX1_decode_83 6 rfl ?_
  refine r_aload_n (pc := 85) X dX1_decode_85 1 rfl rfl ?_
  refine r_geti (pc := 86) X dX1_decode_86 fl_X1_18 oc_12 rfl (fun x2 => ?_)
  refine r_icmp_ne (pc := 89) (tgt := 97) X dX1_decode_89 (by decide) ?_ ?_
  · refine r_iload (pc := 97) X dX1_decode_97 6 rfl ?_
    refine r_iast (pc := 99) X dX1_decode_99 ar_12_0 (fun σ3 => ?_)
    refine r_iinc (pc := 100) (lv' := [(3, .int _), (0, .ref _), (2, .int _), (4, .int _), (5, .int _), (7, .int _)]) X dX1_decode_100 5 rfl (congrArg (fun z => v6 + z) kc_m1) (by decide) rfl (fun x4 => ?_)
    refine r_goto (pc := 103) (tgt := 27) X dX1_decode_103 (by decide) ?_
    refine r_sub [2, 3, 1, 4, 5, 0] rfl ?_
    exact hK27 v2 x1 v4 v5 x4 σ3
  · refine r_bipush (pc := 92) X dX1_decode_92 kb_m9 ?_
    refine r_goto (pc := 94) (tgt := 99) X dX1_decode_94 (by decide) ?_
    refine r_iast (pc := 99) X dX1_decode_99 ar_12_0 (fun σ5 => ?_)
    refine r_iinc (pc := 100) (lv' := [(3, .int _), (0, .ref _), (2, .int _), (4, .int _), (5, .int _), (7, .int _)]) X dX1_decode_100 5 rfl (congrArg (fun z => v6 + z) kc_m1) (by decide) rfl (fun x6 => ?_)
    refine r_goto (pc := 103) (tgt := 27) X dX1_decode_103 (by decide) ?_
    refine r_sub [2, 3, 1, 4, 5, 0] rfl ?_
    exact hK27 v2 x1 v4 v5 x6 σ5

set_option maxRecDepth 100000 in
theorem s_X1_decode_L27 {y : LY} {l : Launch} {E : ET} (X : CX y l E cX1_decode 8 RX1 (rmd 1)) (Z : ZX E (some .boolean)) (hy : y.1 ≤ (eS E).heap.size)     (n : Nat) : ∀ (v2 : Int32) (v3 : Int32) (v4 : Int32) (v5 : Int32) (v6 : Int32) (σ : ST), WW y l E 8 (fun a => QM y E (xI a)) 27 [(0, .ref (ad y 12)), (2, .int v2), (3, .int v3), (4, .int v4), (5, .int v5), (6, .int v6)] [] σ (T_X1_decode_L27  n v2 v3 v4 v5 v6 σ) := by
  induction n with
  | zero => intros; exact r_none rfl
  | succ n ih =>
    intro v2 v3 v4 v5 v6 σ
    unfold T_X1_decode_L27
    refine r_iload (pc := 27) X dX1_decode_27 5 rfl ?_
    refine r_if_lt (pc := 29) (tgt := 106) X dX1_decode_29 (by decide) ?_ ?_
    · refine r_iload (pc := 106) X dX1_decode_106 3 rfl ?_
      refine r_iconst (pc := 108) X dX1_decode_108 kc_0 ?_
      refine r_aload_n (pc := 109) X dX1_decode_109 0 rfl rfl ?_
      refine r_geti (pc := 110) X dX1_decode_110 fl_X1_22 oc_12 rfl (fun x1 => ?_)
      refine r_aload_n (pc := 113) X dX1_decode_113 0 rfl rfl ?_
      refine r_geti (pc := 114) X dX1_decode_114 fl_X1_18 oc_12 rfl (fun x2 => ?_)
      refine r_isub (pc := 117) X dX1_decode_117 ?_
      refine r_callsp (pc := 118) X dX1_decode_118 cf_J9_max_7cf53 ml_X1_34 (rf rfl rfl) hy (fun b hb => m_J9_max_7cf53 hb) rfl rfl (Nat.le_of_ble_eq_true rfl) (fun x3 => ?_)
      refine r_icmp_ne (pc := 121) (tgt := 128) X dX1_decode_121 (by decide) ?_ ?_
      · refine r_iconst (pc := 128) X dX1_decode_128 kc_0 ?_
        exact r_zret (pc := 129) X Z dX1_decode_129 rfl (Or.inl rfl)
      · refine r_iconst (pc := 124) X dX1_decode_124 kc_1 ?_
        refine r_goto (pc := 125) (tgt := 129) X dX1_decode_125 (by decide) ?_
        exact r_zret (pc := 129) X Z dX1_decode_129 rfl (Or.inr rfl)
    · refine r_iload_n (pc := 32) X dX1_decode_32 1 rfl rfl ?_
      refine r_iload (pc := 33) X dX1_decode_33 4 rfl ?_
      refine r_iremz (pc := 35) X dX1_decode_35 ?_
      refine r_vl (fun x5 => ?_)
      refine r_istore (pc := 36) (lv' := [(7, .int _), (0, .ref _), (2, .int _), (3, .int _), (4, .int _), (5, .int _), (6, .int _)]) X dX1_decode_36 (by decide) rfl ?_
      refine r_iload_n (pc := 38) X dX1_decode_38 2 rfl rfl ?_
      refine r_iload (pc := 39) X dX1_decode_39 5 rfl ?_
      refine r_idivz (pc := 41) X dX1_decode_41 ?_
      refine r_vl (fun x6 => ?_)
      refine r_istore_n (pc := 42) (lv' := [(2, .int _), (7, .int _), (0, .ref _), (3, .int _), (4, .int _), (5, .int _), (6, .int _)]) X dX1_decode_42 rfl (by decide) rfl ?_
      refine r_iload (pc := 43) X dX1_decode_43 1 rfl ?_
      refine r_aload_n (pc := 45) X dX1_decode_45 2 rfl rfl ?_
      refine r_geti (pc := 46) X dX1_decode_46 fl_X1_18 oc_12 rfl (fun x7 => ?_)
      refine r_icmp_ne (pc := 49) (tgt := 58) X dX1_decode_49 (by decide) ?_ ?_
      · refine r_iload_n (pc := 58) X dX1_decode_58 3 rfl rfl ?_
        refine r_iload (pc := 59) X dX1_decode_59 1 rfl ?_
        refine r_ishr (pc := 61) X dX1_decode_61 rfl ?_
        refine r_iconst (pc := 62) X dX1_decode_62 kc_1 ?_
        refine r_iand (pc := 63) X dX1_decode_63 ?_
        refine r_iconst (pc := 64) X dX1_decode_64 kc_1 ?_
        refine r_icmp_ne (pc := 65) (tgt := 70) X dX1_decode_65 (by decide) ?_ ?_
        · refine r_sub [2, 0, 3, 4, 5, 6, 1] rfl ?_
          exact s_X1_decode_j70 X Z hy (fun v2 v3 v4 v5 v6 s => ih v2 v3 v4 v5 v6 s) x6 v3 v4 v5 v6 x5 σ
        · refine r_iconst (pc := 68) X dX1_decode_68 kc_0 ?_
          exact r_zret (pc := 69) X Z dX1_decode_69 rfl (Or.inl rfl)
      · refine r_iinc (pc := 52) (lv' := [(2, .int _), (7, .int _), (0, .ref _), (3, .int _), (5, .int _), (6, .int _)]) X dX1_decode_52 4 rfl (congrArg (fun z => v4 + z) kc_1) (by decide) rfl (fun x8 => ?_)
        refine r_goto (pc := 55) (tgt := 70) X dX1_decode_55 (by decide) ?_
        refine r_sub [3, 1, 4, 0, 5, 6, 2] rfl ?_
        exact s_X1_decode_j70 X Z hy (fun v2 v3 v4 v5 v6 s => ih v2 v3 v4 v5 v6 s) x6 v3 x8 v5 v6 x5 σ

set_option maxRecDepth 100000 in
theorem m_X1_decode {y : LY} {l : Launch}  {a0 : Int32} {σ : ST} {a : (Int32 × ST)} (h : T_X1_decode a0 σ = some a) : MU y l yX1_decode cX1_decode 8 (some .boolean) (rmd 1) [.ref (ad y 12), .int a0] σ (xI a) := by
  refine MU.of (φ := xI) h (by decide +kernel) rfl (fun E X Z hy => ?_)
  have X : CX y l E cX1_decode 8 RX1 (rmd 1) := X
  show WW y l E 8 _ 0 [(0, .ref (ad y 12)), (1, .int a0)] [] σ (T_X1_decode a0 σ)
  unfold T_X1_decode
  refine r_iload_n (pc := 0) X dX1_decode_0 1 rfl rfl ?_
  refine r_istore_n (pc := 1) (lv' := [(2, .int _), (0, .ref _), (1, .int _)]) X dX1_decode_1 rfl (by decide) rfl ?_
  refine r_iconst (pc := 2) X dX1_decode_2 kc_0 ?_
  refine r_istore_n (pc := 3) (lv' := [(3, .int _), (2, .int _), (0, .ref _), (1, .int _)]) X dX1_decode_3 rfl (by decide) rfl ?_
  refine r_iconst (pc := 4) X dX1_decode_4 kc_0 ?_
  refine r_istore (pc := 5) (lv' := [(4, .int _), (3, .int _), (2, .int _), (0, .ref _), (1, .int _)]) X dX1_decode_5 (by decide) rfl ?_
  refine r_iconst (pc := 7) X dX1_decode_7 kc_1 ?_
  refine r_aload_n (pc := 8) X dX1_decode_8 3 rfl rfl ?_
  refine r_geti (pc := 9) X dX1_decode_9 fl_X1_18 oc_12 rfl (fun x1 => ?_)
  refine r_iconst (pc := 12) X dX1_decode_12 kc_1 ?_
  refine r_iadd (pc := 13) X dX1_decode_13 ?_
  refine r_callsp (pc := 14) X dX1_decode_14 cf_J9_max_7cf53 ml_X1_34 (rf rfl rfl) hy (fun b hb => m_J9_max_7cf53 hb) rfl rfl (Nat.le_of_ble_eq_true rfl) (fun x2 => ?_)
  refine r_istore (pc := 17) (lv' := [(5, .int _), (4, .int _), (3, .int _), (2, .int _), (0, .ref _), (1, .int _)]) X dX1_decode_17 (by decide) rfl ?_
  refine r_aload_n (pc := 19) X dX1_decode_19 4 rfl rfl ?_
  refine r_geti (pc := 20) X dX1_decode_20 fl_X1_22 oc_12 rfl (fun x4 => ?_)
  refine r_iconst (pc := 23) X dX1_decode_23 kc_1 ?_
  refine r_isub (pc := 24) X dX1_decode_24 ?_
  refine r_vl (fun x5 => ?_)
  refine r_istore (pc := 25) (lv' := [(6, .int _), (5, .int _), (4, .int _), (3, .int _), (2, .int _), (0, .ref _), (1, .int _)]) X dX1_decode_25 (by decide) rfl ?_
  refine r_sub [5, 4, 3, 2, 1, 0] rfl ?_
  exact s_X1_decode_L27 X Z hy FU a0 0 0 x2 x5 σ

set_option maxRecDepth 100000 in
theorem m_X1_keepBest {y : LY} {l : Launch}   {σ : ST} {a : ST} (h : T_X1_keepBest σ = some a) : MU y l yX1_keepBest cX1_keepBest 1 none (rmd 1) [.ref (ad y 12)] σ (xV a) := by
  refine MU.of (φ := xV) h (by decide +kernel) rfl (fun E X Z hy => ?_)
  have X : CX y l E cX1_keepBest 1 RX1 (rmd 1) := X
  show WW y l E 1 _ 0 [(0, .ref (ad y 12))] [] σ (T_X1_keepBest σ)
  unfold T_X1_keepBest
  refine r_aload_n (pc := 0) X dX1_keepBest_0 0 rfl rfl ?_
  refine r_geta (pc := 1) X dX1_keepBest_1 fl_X1_9 oc_12 (by decide) ?_
  refine r_iconst (pc := 4) X dX1_keepBest_4 kc_0 ?_
  refine r_aload_n (pc := 5) X dX1_keepBest_5 0 rfl rfl ?_
  refine r_geta (pc := 6) X dX1_keepBest_6 fl_X1_15 oc_12 (by decide) ?_
  refine r_iconst (pc := 9) X dX1_keepBest_9 kc_0 ?_
  refine r_iconst (pc := 10) X dX1_keepBest_10 kc_4 ?_
  refine r_copy (pc := 11) X dX1_keepBest_11 la_X1_37 ar_12_0 ar_12_1 (by decide) (Nat.le_of_ble_eq_true rfl) (fun σ1 => ?_)
  exact r_vret (pc := 14) X Z dX1_keepBest_14 rfl

set_option maxRecDepth 100000 in
theorem m_X1_choiceOf {y : LY} {l : Launch}  {a0 : Int32} {σ : ST} {a : Int32} (h : T_X1_choiceOf σ a0 = some a) : MU y l yX1_choiceOf cX1_choiceOf 2 (some .int) (rmd 0) [.ref (ad y 12), .int a0] σ (xp σ a) := by
  refine MU.of (φ := xp σ) h (by decide +kernel) rfl (fun E X Z hy => ?_)
  have X : CX y l E cX1_choiceOf 2 RX1 (rmd 0) := X
  show WW y l E 2 _ 0 [(0, .ref (ad y 12)), (1, .int a0)] [] σ (T_X1_choiceOf σ a0)
  unfold T_X1_choiceOf
  refine r_iload_n (pc := 0) X dX1_choiceOf_0 1 rfl rfl ?_
  refine r_if_lt (pc := 1) (tgt := 21) X dX1_choiceOf_1 (by decide) ?_ ?_
  · refine r_bipush (pc := 21) X dX1_choiceOf_21 kb_m9 ?_
    exact r_iret (pc := 23) X Z dX1_choiceOf_23 rfl
  · refine r_iload_n (pc := 4) X dX1_choiceOf_4 1 rfl rfl ?_
    refine r_aload_n (pc := 5) X dX1_choiceOf_5 0 rfl rfl ?_
    refine r_geti (pc := 6) X dX1_choiceOf_6 fl_X1_22 oc_12 rfl (fun x1 => ?_)
    refine r_icmp_ge (pc := 9) (tgt := 21) X dX1_choiceOf_9 (by decide) ?_ ?_
    · refine r_bipush (pc := 21) X dX1_choiceOf_21 kb_m9 ?_
      exact r_iret (pc := 23) X Z dX1_choiceOf_23 rfl
    · refine r_aload_n (pc := 12) X dX1_choiceOf_12 0 rfl rfl ?_
      refine r_geta (pc := 13) X dX1_choiceOf_13 fl_X1_9 oc_12 (by decide) ?_
      refine r_iload_n (pc := 16) X dX1_choiceOf_16 1 rfl rfl ?_
      refine r_iald (pc := 17) X dX1_choiceOf_17 ar_12_0 (fun x2 => ?_)
      refine r_goto (pc := 18) (tgt := 23) X dX1_choiceOf_18 (by decide) ?_
      exact r_iret (pc := 23) X Z dX1_choiceOf_23 rfl

set_option maxRecDepth 100000 in
theorem m_X1_bestBagOf {y : LY} {l : Launch}  {a0 : Int32} {σ : ST} {a : Int32} (h : T_X1_bestBagOf σ a0 = some a) : MU y l yX1_bestBagOf cX1_bestBagOf 2 (some .int) (rmd 0) [.ref (ad y 12), .int a0] σ (xp σ a) := by
  refine MU.of (φ := xp σ) h (by decide +kernel) rfl (fun E X Z hy => ?_)
  have X : CX y l E cX1_bestBagOf 2 RX1 (rmd 0) := X
  show WW y l E 2 _ 0 [(0, .ref (ad y 12)), (1, .int a0)] [] σ (T_X1_bestBagOf σ a0)
  unfold T_X1_bestBagOf
  refine r_iload_n (pc := 0) X dX1_bestBagOf_0 1 rfl rfl ?_
  refine r_if_lt (pc := 1) (tgt := 21) X dX1_bestBagOf_1 (by decide) ?_ ?_
  · refine r_bipush (pc := 21) X dX1_bestBagOf_21 kb_m9 ?_
    exact r_iret (pc := 23) X Z dX1_bestBagOf_23 rfl
  · refine r_iload_n (pc := 4) X dX1_bestBagOf_4 1 rfl rfl ?_
    refine r_aload_n (pc := 5) X dX1_bestBagOf_5 0 rfl rfl ?_
    refine r_geti (pc := 6) X dX1_bestBagOf_6 fl_X1_22 oc_12 rfl (fun x1 => ?_)
    refine r_icmp_ge (pc := 9) (tgt := 21) X dX1_bestBagOf_9 (by decide) ?_ ?_
    · refine r_bipush (pc := 21) X dX1_bestBagOf_21 kb_m9 ?_
      exact r_iret (pc := 23) X Z dX1_bestBagOf_23 rfl
    · refine r_aload_n (pc := 12) X dX1_bestBagOf_12 0 rfl rfl ?_
      refine r_geta (pc := 13) X dX1_bestBagOf_13 fl_X1_15 oc_12 (by decide) ?_
      refine r_iload_n (pc := 16) X dX1_bestBagOf_16 1 rfl rfl ?_
      refine r_iald (pc := 17) X dX1_bestBagOf_17 ar_12_1 (fun x2 => ?_)
      refine r_goto (pc := 18) (tgt := 23) X dX1_bestBagOf_18 (by decide) ?_
      exact r_iret (pc := 23) X Z dX1_bestBagOf_23 rfl

set_option maxRecDepth 100000 in
theorem m_J6_bitCount_0f7a4 {y : LY} {l : Launch}  {a0 : Int32} {σ : ST} {a : Int32} (h : T_J6_bitCount_0f7a4 σ a0 = some a) : MU y l yJ6_bitCount_0f7a4 cJ6_bitCount_0f7a4 1 (some .int) (rmd 0) [.int a0] σ (xp σ a) := by
  refine MU.of (φ := xp σ) h (by decide +kernel) rfl (fun E X Z hy => ?_)
  have X : CX y l E cJ6_bitCount_0f7a4 1 RJ6 (rmd 0) := X
  show WW y l E 1 _ 0 [(0, .int a0)] [] σ (T_J6_bitCount_0f7a4 σ a0)
  unfold T_J6_bitCount_0f7a4
  refine r_iload_n (pc := 0) X dJ6_bitCount_0f7a4_0 0 rfl rfl ?_
  refine r_iload_n (pc := 1) X dJ6_bitCount_0f7a4_1 0 rfl rfl ?_
  refine r_iconst (pc := 2) X dJ6_bitCount_0f7a4_2 kc_1 ?_
  refine r_iushr (pc := 3) X dJ6_bitCount_0f7a4_3 rfl ?_
  refine r_ldcw (pc := 4) X dJ6_bitCount_0f7a4_4 lc_J6_265 ?_
  refine r_iand (pc := 7) X dJ6_bitCount_0f7a4_7 ?_
  refine r_isub (pc := 8) X dJ6_bitCount_0f7a4_8 ?_
  refine r_vl (fun x1 => ?_)
  refine r_istore_n (pc := 9) (lv' := [(0, .int _)]) X dJ6_bitCount_0f7a4_9 rfl (by decide) rfl ?_
  refine r_iload_n (pc := 10) X dJ6_bitCount_0f7a4_10 0 rfl rfl ?_
  refine r_ldcw (pc := 11) X dJ6_bitCount_0f7a4_11 lc_J6_266 ?_
  refine r_iand (pc := 14) X dJ6_bitCount_0f7a4_14 ?_
  refine r_iload_n (pc := 15) X dJ6_bitCount_0f7a4_15 0 rfl rfl ?_
  refine r_iconst (pc := 16) X dJ6_bitCount_0f7a4_16 kc_2 ?_
  refine r_iushr (pc := 17) X dJ6_bitCount_0f7a4_17 rfl ?_
  refine r_ldcw (pc := 18) X dJ6_bitCount_0f7a4_18 lc_J6_266 ?_
  refine r_iand (pc := 21) X dJ6_bitCount_0f7a4_21 ?_
  refine r_iadd (pc := 22) X dJ6_bitCount_0f7a4_22 ?_
  refine r_vl (fun x2 => ?_)
  refine r_istore_n (pc := 23) (lv' := [(0, .int _)]) X dJ6_bitCount_0f7a4_23 rfl (by decide) rfl ?_
  refine r_iload_n (pc := 24) X dJ6_bitCount_0f7a4_24 0 rfl rfl ?_
  refine r_iload_n (pc := 25) X dJ6_bitCount_0f7a4_25 0 rfl rfl ?_
  refine r_iconst (pc := 26) X dJ6_bitCount_0f7a4_26 kc_4 ?_
  refine r_iushr (pc := 27) X dJ6_bitCount_0f7a4_27 rfl ?_
  refine r_iadd (pc := 28) X dJ6_bitCount_0f7a4_28 ?_
  refine r_ldcw (pc := 29) X dJ6_bitCount_0f7a4_29 lc_J6_267 ?_
  refine r_iand (pc := 32) X dJ6_bitCount_0f7a4_32 ?_
  refine r_vl (fun x3 => ?_)
  refine r_istore_n (pc := 33) (lv' := [(0, .int _)]) X dJ6_bitCount_0f7a4_33 rfl (by decide) rfl ?_
  refine r_iload_n (pc := 34) X dJ6_bitCount_0f7a4_34 0 rfl rfl ?_
  refine r_iload_n (pc := 35) X dJ6_bitCount_0f7a4_35 0 rfl rfl ?_
  refine r_bipush (pc := 36) X dJ6_bitCount_0f7a4_36 kb_8 ?_
  refine r_iushr (pc := 38) X dJ6_bitCount_0f7a4_38 rfl ?_
  refine r_iadd (pc := 39) X dJ6_bitCount_0f7a4_39 ?_
  refine r_vl (fun x4 => ?_)
  refine r_istore_n (pc := 40) (lv' := [(0, .int _)]) X dJ6_bitCount_0f7a4_40 rfl (by decide) rfl ?_
  refine r_iload_n (pc := 41) X dJ6_bitCount_0f7a4_41 0 rfl rfl ?_
  refine r_iload_n (pc := 42) X dJ6_bitCount_0f7a4_42 0 rfl rfl ?_
  refine r_bipush (pc := 43) X dJ6_bitCount_0f7a4_43 kb_16 ?_
  refine r_iushr (pc := 45) X dJ6_bitCount_0f7a4_45 rfl ?_
  refine r_iadd (pc := 46) X dJ6_bitCount_0f7a4_46 ?_
  refine r_vl (fun x5 => ?_)
  refine r_istore_n (pc := 47) (lv' := [(0, .int _)]) X dJ6_bitCount_0f7a4_47 rfl (by decide) rfl ?_
  refine r_iload_n (pc := 48) X dJ6_bitCount_0f7a4_48 0 rfl rfl ?_
  refine r_bipush (pc := 49) X dJ6_bitCount_0f7a4_49 kb_63 ?_
  refine r_iand (pc := 51) X dJ6_bitCount_0f7a4_51 ?_
  exact r_iret (pc := 52) X Z dJ6_bitCount_0f7a4_52 rfl

