/-! the bytecode does that: by program -/
set_option maxRecDepth 100000 in
theorem m_X3_no {y : LY} {l : Launch}  {a0 : Int32} {σ : ST} {a : (Int32 × ST)} (h : T_X3_no a0 σ = some a) : MU y l yX3_no cX3_no 2 (some .int) (rmd 0) [.ref (ad y 13), .int a0] σ (xI a) := by
  refine MU.of (φ := xI) h (by decide +kernel) rfl (fun E X Z hy => ?_)
  have X : CX y l E cX3_no 2 RX3 (rmd 0) := X
  show WW y l E 2 _ 0 [(0, .ref (ad y 13)), (1, .int a0)] [] σ (T_X3_no a0 σ)
  unfold T_X3_no
  refine r_aload_n (pc := 0) X dX3_no_0 0 rfl rfl ?_
  refine r_geta (pc := 1) X dX3_no_1 fl_X3_7 oc_13 (by decide) ?_
  refine r_iload_n (pc := 4) X dX3_no_4 1 rfl rfl ?_
  refine r_ineg (pc := 5) X dX3_no_5 ?_
  refine r_vl (fun x1 => ?_)
  refine r_dup2 (pc := 6) X dX3_no_6 rfl rfl ?_
  refine r_iald (pc := 7) X dX3_no_7 ar_13_0 (fun x2 => ?_)
  refine r_iconst (pc := 8) X dX3_no_8 kc_1 ?_
  refine r_iadd (pc := 9) X dX3_no_9 ?_
  refine r_iast (pc := 10) X dX3_no_10 ar_13_0 (fun σ3 => ?_)
  refine r_iload_n (pc := 11) X dX3_no_11 1 rfl rfl ?_
  exact r_iret (pc := 12) X Z dX3_no_12 rfl

set_option maxRecDepth 100000 in
theorem m_X3_lowest {y : LY} {l : Launch}  {a0 : Int32} {σ : ST} {a : (Int64 × ST)} (h : T_X3_lowest a0 σ = some a) : MU y l yX3_lowest cX3_lowest 2 (some .long) (rmd 0) [.ref (ad y 13), .int a0] σ (xJ a) := by
  refine MU.of (φ := xJ) h (by decide +kernel) rfl (fun E X Z hy => ?_)
  have X : CX y l E cX3_lowest 2 RX3 (rmd 0) := X
  show WW y l E 2 _ 0 [(0, .ref (ad y 13)), (1, .int a0)] [] σ (T_X3_lowest a0 σ)
  unfold T_X3_lowest
  refine r_aload_n (pc := 0) X dX3_lowest_0 0 rfl rfl ?_
  refine r_geta (pc := 1) X dX3_lowest_1 fl_X3_7 oc_13 (by decide) ?_
  refine r_iload_n (pc := 4) X dX3_lowest_4 1 rfl rfl ?_
  refine r_ineg (pc := 5) X dX3_lowest_5 ?_
  refine r_vl (fun x1 => ?_)
  refine r_dup2 (pc := 6) X dX3_lowest_6 rfl rfl ?_
  refine r_iald (pc := 7) X dX3_lowest_7 ar_13_0 (fun x2 => ?_)
  refine r_iconst (pc := 8) X dX3_lowest_8 kc_1 ?_
  refine r_iadd (pc := 9) X dX3_lowest_9 ?_
  refine r_iast (pc := 10) X dX3_lowest_10 ar_13_0 (fun σ3 => ?_)
  refine r_ldc2 (pc := 11) X dX3_lowest_11 lc_X3_86 ?_
  refine r_iload_n (pc := 14) X dX3_lowest_14 1 rfl rfl ?_
  refine r_i2l (pc := 15) X dX3_lowest_15 ?_
  refine r_lsub (pc := 16) X dX3_lowest_16 ?_
  exact r_lret (pc := 17) X Z dX3_lowest_17 rfl

set_option maxRecDepth 100000 in
theorem m_X3_isIn {y : LY} {l : Launch}  {a0 : Int32} {a1 : Int32} {a2 : Int32} {σ : ST} {a : Int32} (h : T_X3_isIn σ a0 a1 a2 = some a) : MU y l yX3_isIn cX3_isIn 3 (some .boolean) (rmd 0) [.int a0, .int a1, .int a2] σ (xp σ a) := by
  refine MU.of (φ := xp σ) h (by decide +kernel) rfl (fun E X Z hy => ?_)
  have X : CX y l E cX3_isIn 3 RX3 (rmd 0) := X
  show WW y l E 3 _ 0 [(0, .int a0), (1, .int a1), (2, .int a2)] [] σ (T_X3_isIn σ a0 a1 a2)
  unfold T_X3_isIn
  refine r_iload_n (pc := 0) X dX3_isIn_0 0 rfl rfl ?_
  refine r_iload_n (pc := 1) X dX3_isIn_1 1 rfl rfl ?_
  refine r_icmp_lt (pc := 2) (tgt := 14) X dX3_isIn_2 (by decide) ?_ ?_
  · refine r_iconst (pc := 14) X dX3_isIn_14 kc_0 ?_
    exact r_zret (pc := 15) X Z dX3_isIn_15 rfl (Or.inl rfl)
  · refine r_iload_n (pc := 5) X dX3_isIn_5 0 rfl rfl ?_
    refine r_iload_n (pc := 6) X dX3_isIn_6 2 rfl rfl ?_
    refine r_icmp_gt (pc := 7) (tgt := 14) X dX3_isIn_7 (by decide) ?_ ?_
    · refine r_iconst (pc := 14) X dX3_isIn_14 kc_0 ?_
      exact r_zret (pc := 15) X Z dX3_isIn_15 rfl (Or.inl rfl)
    · refine r_iconst (pc := 10) X dX3_isIn_10 kc_1 ?_
      refine r_goto (pc := 11) (tgt := 15) X dX3_isIn_11 (by decide) ?_
      exact r_zret (pc := 15) X Z dX3_isIn_15 rfl (Or.inr rfl)

set_option maxRecDepth 100000 in
theorem m_X3_bound {y : LY} {l : Launch}  {a0 : Int32} {a1 : Int32} {a2 : Int32} {σ : ST} {a : Int32} (h : T_X3_bound σ a0 a1 a2 = some a) : MU y l yX3_bound cX3_bound 3 (some .int) (rmd 0) [.int a0, .int a1, .int a2] σ (xp σ a) := by
  refine MU.of (φ := xp σ) h (by decide +kernel) rfl (fun E X Z hy => ?_)
  have X : CX y l E cX3_bound 3 RX3 (rmd 0) := X
  show WW y l E 3 _ 0 [(0, .int a0), (1, .int a1), (2, .int a2)] [] σ (T_X3_bound σ a0 a1 a2)
  unfold T_X3_bound
  refine r_iload_n (pc := 0) X dX3_bound_0 0 rfl rfl ?_
  refine r_iload_n (pc := 1) X dX3_bound_1 1 rfl rfl ?_
  refine r_icmp_ge (pc := 2) (tgt := 10) X dX3_bound_2 (by decide) ?_ ?_
  · refine r_iload_n (pc := 10) X dX3_bound_10 0 rfl rfl ?_
    refine r_iload_n (pc := 11) X dX3_bound_11 2 rfl rfl ?_
    refine r_icmp_le (pc := 12) (tgt := 20) X dX3_bound_12 (by decide) ?_ ?_
    · refine r_iconst (pc := 20) X dX3_bound_20 kc_0 ?_
      exact r_iret (pc := 21) X Z dX3_bound_21 rfl
    · refine r_bipush (pc := 15) X dX3_bound_15 kb_m6 ?_
      refine r_goto (pc := 17) (tgt := 21) X dX3_bound_17 (by decide) ?_
      exact r_iret (pc := 21) X Z dX3_bound_21 rfl
  · refine r_bipush (pc := 5) X dX3_bound_5 kb_m4 ?_
    refine r_goto (pc := 7) (tgt := 21) X dX3_bound_7 (by decide) ?_
    exact r_iret (pc := 21) X Z dX3_bound_21 rfl

set_option maxRecDepth 100000 in
theorem m_X3_isBag {y : LY} {l : Launch}  {a0 : Int32} {σ : ST} {a : Int32} (h : T_X3_isBag σ a0 = some a) : MU y l yX3_isBag cX3_isBag 2 (some .boolean) (rmd 0) [.ref (ad y 13), .int a0] σ (xp σ a) := by
  refine MU.of (φ := xp σ) h (by decide +kernel) rfl (fun E X Z hy => ?_)
  have X : CX y l E cX3_isBag 2 RX3 (rmd 0) := X
  show WW y l E 2 _ 0 [(0, .ref (ad y 13)), (1, .int a0)] [] σ (T_X3_isBag σ a0)
  unfold T_X3_isBag
  refine r_iload_n (pc := 0) X dX3_isBag_0 1 rfl rfl ?_
  refine r_if_lt (pc := 1) (tgt := 16) X dX3_isBag_1 (by decide) ?_ ?_
  · refine r_iconst (pc := 16) X dX3_isBag_16 kc_0 ?_
    exact r_zret (pc := 17) X Z dX3_isBag_17 rfl (Or.inl rfl)
  · refine r_iload_n (pc := 4) X dX3_isBag_4 1 rfl rfl ?_
    refine r_aload_n (pc := 5) X dX3_isBag_5 0 rfl rfl ?_
    refine r_geti (pc := 6) X dX3_isBag_6 fl_X3_83 oc_13 rfl (fun x1 => ?_)
    refine r_icmp_ge (pc := 9) (tgt := 16) X dX3_isBag_9 (by decide) ?_ ?_
    · refine r_iconst (pc := 16) X dX3_isBag_16 kc_0 ?_
      exact r_zret (pc := 17) X Z dX3_isBag_17 rfl (Or.inl rfl)
    · refine r_iconst (pc := 12) X dX3_isBag_12 kc_1 ?_
      refine r_goto (pc := 13) (tgt := 17) X dX3_isBag_13 (by decide) ?_
      exact r_zret (pc := 17) X Z dX3_isBag_17 rfl (Or.inr rfl)

set_option maxRecDepth 100000 in
theorem m_X3_isBearer {y : LY} {l : Launch}  {a0 : Int32} {σ : ST} {a : Int32} (h : T_X3_isBearer σ a0 = some a) : MU y l yX3_isBearer cX3_isBearer 2 (some .boolean) (rmd 0) [.ref (ad y 13), .int a0] σ (xp σ a) := by
  refine MU.of (φ := xp σ) h (by decide +kernel) rfl (fun E X Z hy => ?_)
  have X : CX y l E cX3_isBearer 2 RX3 (rmd 0) := X
  show WW y l E 2 _ 0 [(0, .ref (ad y 13)), (1, .int a0)] [] σ (T_X3_isBearer σ a0)
  unfold T_X3_isBearer
  refine r_iload_n (pc := 0) X dX3_isBearer_0 1 rfl rfl ?_
  refine r_if_lt (pc := 1) (tgt := 16) X dX3_isBearer_1 (by decide) ?_ ?_
  · refine r_iconst (pc := 16) X dX3_isBearer_16 kc_0 ?_
    exact r_zret (pc := 17) X Z dX3_isBearer_17 rfl (Or.inl rfl)
  · refine r_iload_n (pc := 4) X dX3_isBearer_4 1 rfl rfl ?_
    refine r_aload_n (pc := 5) X dX3_isBearer_5 0 rfl rfl ?_
    refine r_geti (pc := 6) X dX3_isBearer_6 fl_X3_88 oc_13 rfl (fun x1 => ?_)
    refine r_icmp_ge (pc := 9) (tgt := 16) X dX3_isBearer_9 (by decide) ?_ ?_
    · refine r_iconst (pc := 16) X dX3_isBearer_16 kc_0 ?_
      exact r_zret (pc := 17) X Z dX3_isBearer_17 rfl (Or.inl rfl)
    · refine r_iconst (pc := 12) X dX3_isBearer_12 kc_1 ?_
      refine r_goto (pc := 13) (tgt := 17) X dX3_isBearer_13 (by decide) ?_
      exact r_zret (pc := 17) X Z dX3_isBearer_17 rfl (Or.inr rfl)

set_option maxRecDepth 100000 in
theorem m_X3_isPlace {y : LY} {l : Launch}  {a0 : Int32} {σ : ST} {a : Int32} (h : T_X3_isPlace σ a0 = some a) : MU y l yX3_isPlace cX3_isPlace 1 (some .boolean) (rmd 0) [.int a0] σ (xp σ a) := by
  refine MU.of (φ := xp σ) h (by decide +kernel) rfl (fun E X Z hy => ?_)
  have X : CX y l E cX3_isPlace 1 RX3 (rmd 0) := X
  show WW y l E 1 _ 0 [(0, .int a0)] [] σ (T_X3_isPlace σ a0)
  unfold T_X3_isPlace
  refine r_iload_n (pc := 0) X dX3_isPlace_0 0 rfl rfl ?_
  refine r_if_lt (pc := 1) (tgt := 14) X dX3_isPlace_1 (by decide) ?_ ?_
  · refine r_iconst (pc := 14) X dX3_isPlace_14 kc_0 ?_
    exact r_zret (pc := 15) X Z dX3_isPlace_15 rfl (Or.inl rfl)
  · refine r_iload_n (pc := 4) X dX3_isPlace_4 0 rfl rfl ?_
    refine r_bipush (pc := 5) X dX3_isPlace_5 kb_10 ?_
    refine r_icmp_ge (pc := 7) (tgt := 14) X dX3_isPlace_7 (by decide) ?_ ?_
    · refine r_iconst (pc := 14) X dX3_isPlace_14 kc_0 ?_
      exact r_zret (pc := 15) X Z dX3_isPlace_15 rfl (Or.inl rfl)
    · refine r_iconst (pc := 10) X dX3_isPlace_10 kc_1 ?_
      refine r_goto (pc := 11) (tgt := 15) X dX3_isPlace_11 (by decide) ?_
      exact r_zret (pc := 15) X Z dX3_isPlace_15 rfl (Or.inr rfl)

set_option maxRecDepth 100000 in
theorem m_X3_areTwo {y : LY} {l : Launch}  {a0 : Int32} {a1 : Int32} {σ : ST} {a : Int32} (h : T_X3_areTwo σ a0 a1 = some a) : MU y l yX3_areTwo cX3_areTwo 3 (some .boolean) (rmd 1) [.ref (ad y 13), .int a0, .int a1] σ (xp σ a) := by
  refine MU.of (φ := xp σ) h (by decide +kernel) rfl (fun E X Z hy => ?_)
  have X : CX y l E cX3_areTwo 3 RX3 (rmd 1) := X
  show WW y l E 3 _ 0 [(0, .ref (ad y 13)), (1, .int a0), (2, .int a1)] [] σ (T_X3_areTwo σ a0 a1)
  unfold T_X3_areTwo
  refine r_aload_n (pc := 0) X dX3_areTwo_0 0 rfl rfl ?_
  refine r_iload_n (pc := 1) X dX3_areTwo_1 1 rfl rfl ?_
  refine r_callvp (pc := 2) X dX3_areTwo_2 cf_X3_isBearer ml_X3_91 (rf rfl rfl) hy oc_13.1 hc_3 (fun b hb => m_X3_isBearer hb) rfl rfl (Nat.le_of_ble_eq_true rfl) (fun x1 => ?_)
  refine r_if_eq (pc := 5) (tgt := 25) X dX3_areTwo_5 (by decide) ?_ ?_
  · refine r_iconst (pc := 25) X dX3_areTwo_25 kc_0 ?_
    exact r_zret (pc := 26) X Z dX3_areTwo_26 rfl (Or.inl rfl)
  · refine r_aload_n (pc := 8) X dX3_areTwo_8 0 rfl rfl ?_
    refine r_iload_n (pc := 9) X dX3_areTwo_9 2 rfl rfl ?_
    refine r_callvp (pc := 10) X dX3_areTwo_10 cf_X3_isBearer ml_X3_91 (rf rfl rfl) hy oc_13.1 hc_3 (fun b hb => m_X3_isBearer hb) rfl rfl (Nat.le_of_ble_eq_true rfl) (fun x3 => ?_)
    refine r_if_eq (pc := 13) (tgt := 25) X dX3_areTwo_13 (by decide) ?_ ?_
    · refine r_iconst (pc := 25) X dX3_areTwo_25 kc_0 ?_
      exact r_zret (pc := 26) X Z dX3_areTwo_26 rfl (Or.inl rfl)
    · refine r_iload_n (pc := 16) X dX3_areTwo_16 1 rfl rfl ?_
      refine r_iload_n (pc := 17) X dX3_areTwo_17 2 rfl rfl ?_
      refine r_icmp_eq (pc := 18) (tgt := 25) X dX3_areTwo_18 (by decide) ?_ ?_
      · refine r_iconst (pc := 25) X dX3_areTwo_25 kc_0 ?_
        exact r_zret (pc := 26) X Z dX3_areTwo_26 rfl (Or.inl rfl)
      · refine r_iconst (pc := 21) X dX3_areTwo_21 kc_1 ?_
        refine r_goto (pc := 22) (tgt := 26) X dX3_areTwo_22 (by decide) ?_
        exact r_zret (pc := 26) X Z dX3_areTwo_26 rfl (Or.inr rfl)

set_option maxRecDepth 100000 in
theorem s_X3_feed_j25 {y : LY} {l : Launch} {E : ET} (X : CX y l E cX3_feed 3 RX3 (rmd 1)) (Z : ZX E (some .int)) (hy : y.1 ≤ (eS E).heap.size)     (v1 : Int32) (v2 : Int32) (σ : ST) : WW y l E 3 (fun a => QM y E (xI a)) 25 [(0, .ref (ad y 13)), (1, .int v1), (2, .int v2)] [] σ (T_X3_feed_j25   v1 v2 σ) := by
  unfold T_X3_feed_j25
  refine r_iload_n (pc := 25) X dX3_feed_25 2 rfl rfl ?_
  refine r_if_eq (pc := 26) (tgt := 35) X dX3_feed_26 (by decide) ?_ ?_
  · refine r_aload_n (pc := 35) X dX3_feed_35 0 rfl rfl ?_
    refine r_geta (pc := 36) X dX3_feed_36 fl_X3_43 oc_13 (by decide) ?_
    refine r_aload_n (pc := 39) X dX3_feed_39 0 rfl rfl ?_
    refine r_geti (pc := 40) X dX3_feed_40 fl_X3_99 oc_13 rfl (fun x1 => ?_)
    refine r_iload_n (pc := 43) X dX3_feed_43 1 rfl rfl ?_
    refine r_iast (pc := 44) X dX3_feed_44 ar_13_15 (fun σ2 => ?_)
    refine r_aload_n (pc := 45) X dX3_feed_45 0 rfl rfl ?_
    refine r_dup (pc := 46) X dX3_feed_46 rfl ?_
    refine r_geti (pc := 47) X dX3_feed_47 fl_X3_99 oc_13 rfl (fun x3 => ?_)
    refine r_iconst (pc := 50) X dX3_feed_50 kc_1 ?_
    refine r_iadd (pc := 51) X dX3_feed_51 ?_
    refine r_puti (pc := 52) X dX3_feed_52 fl_X3_99 fw_3_19 oc_13 rfl (fun σ4 => ?_)
    refine r_aload_n (pc := 55) X dX3_feed_55 0 rfl rfl ?_
    refine r_geti (pc := 56) X dX3_feed_56 fl_X3_99 oc_13 rfl (fun x5 => ?_)
    exact r_iret (pc := 59) X Z dX3_feed_59 rfl
  · refine r_aload_n (pc := 29) X dX3_feed_29 0 rfl rfl ?_
    refine r_iload_n (pc := 30) X dX3_feed_30 2 rfl rfl ?_
    refine r_callvI (pc := 31) X dX3_feed_31 cf_X3_no ml_X3_102 (rf rfl rfl) hy oc_13.1 hc_3 (fun b hb => m_X3_no hb) rfl rfl (Nat.le_of_ble_eq_true rfl) (fun x6 σ7 => ?_)
    exact r_iret (pc := 34) X Z dX3_feed_34 rfl

set_option maxRecDepth 100000 in
theorem m_X3_feed {y : LY} {l : Launch}  {a0 : Int32} {σ : ST} {a : (Int32 × ST)} (h : T_X3_feed a0 σ = some a) : MU y l yX3_feed cX3_feed 3 (some .int) (rmd 1) [.ref (ad y 13), .int a0] σ (xI a) := by
  refine MU.of (φ := xI) h (by decide +kernel) rfl (fun E X Z hy => ?_)
  have X : CX y l E cX3_feed 3 RX3 (rmd 1) := X
  show WW y l E 3 _ 0 [(0, .ref (ad y 13)), (1, .int a0)] [] σ (T_X3_feed a0 σ)
  unfold T_X3_feed
  refine r_iload_n (pc := 0) X dX3_feed_0 1 rfl rfl ?_
  refine r_iconst (pc := 1) X dX3_feed_1 kc_0 ?_
  refine r_sipush (pc := 2) X dX3_feed_2 ks_255 ?_
  refine r_callsp (pc := 5) X dX3_feed_5 cf_X3_bound ml_X3_95 (rf rfl rfl) hy (fun b hb => m_X3_bound hb) rfl rfl (Nat.le_of_ble_eq_true rfl) (fun x1 => ?_)
  refine r_istore_n (pc := 8) (lv' := [(2, .int _), (0, .ref _), (1, .int _)]) X dX3_feed_8 rfl (by decide) rfl ?_
  refine r_iload_n (pc := 9) X dX3_feed_9 0 rfl rfl ?_
  refine r_if_ne (pc := 10) (tgt := 25) X dX3_feed_10 (by decide) ?_ ?_
  · refine r_sub [1, 2, 0] rfl ?_
    exact s_X3_feed_j25 X Z hy a0 x1 σ
  · refine r_aload_n (pc := 13) X dX3_feed_13 1 rfl rfl ?_
    refine r_geti (pc := 14) X dX3_feed_14 fl_X3_99 oc_13 rfl (fun x3 => ?_)
    refine r_bipush (pc := 17) X dX3_feed_17 kb_96 ?_
    refine r_icmp_ne (pc := 19) (tgt := 25) X dX3_feed_19 (by decide) ?_ ?_
    · refine r_sub [1, 2, 0] rfl ?_
      exact s_X3_feed_j25 X Z hy a0 x1 σ
    · refine r_bipush (pc := 22) X dX3_feed_22 kb_m6 ?_
      refine r_istore_n (pc := 24) (lv' := [(2, .int _), (0, .ref _), (1, .int _)]) X dX3_feed_24 rfl (by decide) rfl ?_
      refine r_sub [1, 2, 0] rfl ?_
      exact s_X3_feed_j25 X Z hy a0 ((-6)) σ

set_option maxRecDepth 100000 in
theorem m_X3_next {y : LY} {l : Launch}   {σ : ST} {a : Int32} (h : T_X3_next σ = some a) : MU y l yX3_next cX3_next 1 (some .int) (rmd 0) [.ref (ad y 13)] σ (xp σ a) := by
  refine MU.of (φ := xp σ) h (by decide +kernel) rfl (fun E X Z hy => ?_)
  have X : CX y l E cX3_next 1 RX3 (rmd 0) := X
  show WW y l E 1 _ 0 [(0, .ref (ad y 13))] [] σ (T_X3_next σ)
  unfold T_X3_next
  refine r_aload_n (pc := 0) X dX3_next_0 0 rfl rfl ?_
  refine r_geti (pc := 1) X dX3_next_1 fl_X3_106 oc_13 rfl (fun x1 => ?_)
  refine r_aload_n (pc := 4) X dX3_next_4 0 rfl rfl ?_
  refine r_geti (pc := 5) X dX3_next_5 fl_X3_99 oc_13 rfl (fun x2 => ?_)
  refine r_icmp_ge (pc := 8) (tgt := 23) X dX3_next_8 (by decide) ?_ ?_
  · refine r_iconst (pc := 23) X dX3_next_23 kc_m1 ?_
    exact r_iret (pc := 24) X Z dX3_next_24 rfl
  · refine r_aload_n (pc := 11) X dX3_next_11 0 rfl rfl ?_
    refine r_geta (pc := 12) X dX3_next_12 fl_X3_43 oc_13 (by decide) ?_
    refine r_aload_n (pc := 15) X dX3_next_15 0 rfl rfl ?_
    refine r_geti (pc := 16) X dX3_next_16 fl_X3_106 oc_13 rfl (fun x3 => ?_)
    refine r_iald (pc := 19) X dX3_next_19 ar_13_15 (fun x4 => ?_)
    refine r_goto (pc := 20) (tgt := 24) X dX3_next_20 (by decide) ?_
    exact r_iret (pc := 24) X Z dX3_next_24 rfl

set_option maxRecDepth 100000 in
theorem s_X3_readsDigits_L5 {y : LY} {l : Launch} {E : ET} (X : CX y l E cX3_readsDigits 5 RX3 (rmd 1)) (Z : ZX E (some .boolean)) (hy : y.1 ≤ (eS E).heap.size)     (n : Nat) : ∀ (v1 : Int32) (v2 : Int32) (v3 : Int32) (v4 : Int32) (σ : ST), WW y l E 5 (fun a => QM y E (xI a)) 5 [(0, .ref (ad y 13)), (1, .int v1), (2, .int v2), (3, .int v3), (4, .int v4)] [] σ (T_X3_readsDigits_L5  n v1 v2 v3 v4 σ) := by
  induction n with
  | zero => intros; exact r_none rfl
  | succ n ih =>
    intro v1 v2 v3 v4 σ
    unfold T_X3_readsDigits_L5
    refine r_iload (pc := 5) X dX3_readsDigits_5 4 rfl ?_
    refine r_iload_n (pc := 7) X dX3_readsDigits_7 2 rfl rfl ?_
    refine r_icmp_ge (pc := 8) (tgt := 56) X dX3_readsDigits_8 (by decide) ?_ ?_
    · refine r_aload_n (pc := 56) X dX3_readsDigits_56 0 rfl rfl ?_
      refine r_geta (pc := 57) X dX3_readsDigits_57 fl_X3_52 oc_13 (by decide) ?_
      refine r_iload_n (pc := 60) X dX3_readsDigits_60 1 rfl rfl ?_
      refine r_iload_n (pc := 61) X dX3_readsDigits_61 3 rfl rfl ?_
      refine r_iast (pc := 62) X dX3_readsDigits_62 ar_13_18 (fun σ1 => ?_)
      refine r_iconst (pc := 63) X dX3_readsDigits_63 kc_1 ?_
      exact r_zret (pc := 64) X Z dX3_readsDigits_64 rfl (Or.inr rfl)
    · refine r_aload_n (pc := 11) X dX3_readsDigits_11 0 rfl rfl ?_
      refine r_callvp (pc := 12) X dX3_readsDigits_12 cf_X3_next ml_X3_109 (rf rfl rfl) hy oc_13.1 hc_3 (fun b hb => m_X3_next hb) rfl rfl (Nat.le_of_ble_eq_true rfl) (fun x2 => ?_)
      refine r_bipush (pc := 15) X dX3_readsDigits_15 kb_48 ?_
      refine r_bipush (pc := 17) X dX3_readsDigits_17 kb_57 ?_
      refine r_callsp (pc := 19) X dX3_readsDigits_19 cf_X3_isIn ml_X3_113 (rf rfl rfl) hy (fun b hb => m_X3_isIn hb) rfl rfl (Nat.le_of_ble_eq_true rfl) (fun x4 => ?_)
      refine r_if_ne (pc := 22) (tgt := 27) X dX3_readsDigits_22 (by decide) ?_ ?_
      · refine r_bipush (pc := 27) X dX3_readsDigits_27 kb_10 ?_
        refine r_iload_n (pc := 29) X dX3_readsDigits_29 3 rfl rfl ?_
        refine r_imul (pc := 30) X dX3_readsDigits_30 ?_
        refine r_aload_n (pc := 31) X dX3_readsDigits_31 0 rfl rfl ?_
        refine r_callvp (pc := 32) X dX3_readsDigits_32 cf_X3_next ml_X3_109 (rf rfl rfl) hy oc_13.1 hc_3 (fun b hb => m_X3_next hb) rfl rfl (Nat.le_of_ble_eq_true rfl) (fun x6 => ?_)
        refine r_iadd (pc := 35) X dX3_readsDigits_35 ?_
        refine r_bipush (pc := 36) X dX3_readsDigits_36 kb_48 ?_
        refine r_isub (pc := 38) X dX3_readsDigits_38 ?_
        refine r_vl (fun x8 => ?_)
        refine r_istore_n (pc := 39) (lv' := [(3, .int _), (0, .ref _), (1, .int _), (2, .int _), (4, .int _)]) X dX3_readsDigits_39 rfl (by decide) rfl ?_
        refine r_aload_n (pc := 40) X dX3_readsDigits_40 1 rfl rfl ?_
        refine r_dup (pc := 41) X dX3_readsDigits_41 rfl ?_
        refine r_geti (pc := 42) X dX3_readsDigits_42 fl_X3_106 oc_13 rfl (fun x9 => ?_)
        refine r_iconst (pc := 45) X dX3_readsDigits_45 kc_1 ?_
        refine r_iadd (pc := 46) X dX3_readsDigits_46 ?_
        refine r_puti (pc := 47) X dX3_readsDigits_47 fl_X3_106 fw_3_20 oc_13 rfl (fun σ10 => ?_)
        refine r_iinc (pc := 50) (lv' := [(3, .int _), (0, .ref _), (1, .int _), (2, .int _)]) X dX3_readsDigits_50 4 rfl (congrArg (fun z => v4 + z) kc_1) (by decide) rfl (fun x11 => ?_)
        refine r_goto (pc := 53) (tgt := 5) X dX3_readsDigits_53 (by decide) ?_
        refine r_sub [2, 3, 4, 1, 0] rfl ?_
        exact ih v1 v2 x8 x11 σ10
      · refine r_iconst (pc := 25) X dX3_readsDigits_25 kc_0 ?_
        exact r_zret (pc := 26) X Z dX3_readsDigits_26 rfl (Or.inl rfl)

set_option maxRecDepth 100000 in
theorem m_X3_readsDigits {y : LY} {l : Launch}  {a0 : Int32} {a1 : Int32} {σ : ST} {a : (Int32 × ST)} (h : T_X3_readsDigits a0 a1 σ = some a) : MU y l yX3_readsDigits cX3_readsDigits 5 (some .boolean) (rmd 1) [.ref (ad y 13), .int a0, .int a1] σ (xI a) := by
  refine MU.of (φ := xI) h (by decide +kernel) rfl (fun E X Z hy => ?_)
  have X : CX y l E cX3_readsDigits 5 RX3 (rmd 1) := X
  show WW y l E 5 _ 0 [(0, .ref (ad y 13)), (1, .int a0), (2, .int a1)] [] σ (T_X3_readsDigits a0 a1 σ)
  unfold T_X3_readsDigits
  refine r_iconst (pc := 0) X dX3_readsDigits_0 kc_0 ?_
  refine r_istore_n (pc := 1) (lv' := [(3, .int _), (0, .ref _), (1, .int _), (2, .int _)]) X dX3_readsDigits_1 rfl (by decide) rfl ?_
  refine r_iconst (pc := 2) X dX3_readsDigits_2 kc_0 ?_
  refine r_istore (pc := 3) (lv' := [(4, .int _), (3, .int _), (0, .ref _), (1, .int _), (2, .int _)]) X dX3_readsDigits_3 (by decide) rfl ?_
  refine r_sub [2, 3, 4, 1, 0] rfl ?_
  exact s_X3_readsDigits_L5 X Z hy FU a0 a1 0 0 σ

set_option maxRecDepth 100000 in
theorem s_X3_readsAll_j44 {y : LY} {l : Launch} {E : ET} (X : CX y l E cX3_readsAll 3 RX3 (rmd 2)) (Z : ZX E (some .boolean)) (hy : y.1 ≤ (eS E).heap.size)     (v2 : Int32) (σ : ST) : WW y l E 3 (fun a => QM y E (xI a)) 44 [(0, .ref (ad y 13)), (2, .int v2)] [] σ (T_X3_readsAll_j44   v2 σ) := by
  unfold T_X3_readsAll_j44
  refine r_aload_n (pc := 44) X dX3_readsAll_44 0 rfl rfl ?_
  refine r_iload_n (pc := 45) X dX3_readsAll_45 1 rfl rfl ?_
  refine r_iconst (pc := 46) X dX3_readsAll_46 kc_1 ?_
  refine r_callvI (pc := 47) X dX3_readsAll_47 cf_X3_readsDigits ml_X3_117 (rf rfl rfl) hy oc_13.1 hc_3 (fun b hb => m_X3_readsDigits hb) rfl rfl (Nat.le_of_ble_eq_true rfl) (fun x1 σ2 => ?_)
  refine r_if_eq (pc := 50) (tgt := 79) X dX3_readsAll_50 (by decide) ?_ ?_
  · refine r_iconst (pc := 79) X dX3_readsAll_79 kc_0 ?_
    exact r_zret (pc := 80) X Z dX3_readsAll_80 rfl (Or.inl rfl)
  · refine r_aload_n (pc := 53) X dX3_readsAll_53 0 rfl rfl ?_
    refine r_iload_n (pc := 54) X dX3_readsAll_54 1 rfl rfl ?_
    refine r_iconst (pc := 55) X dX3_readsAll_55 kc_1 ?_
    refine r_iadd (pc := 56) X dX3_readsAll_56 ?_
    refine r_iconst (pc := 57) X dX3_readsAll_57 kc_1 ?_
    refine r_callvI (pc := 58) X dX3_readsAll_58 cf_X3_readsDigits ml_X3_117 (rf rfl rfl) hy oc_13.1 hc_3 (fun b hb => m_X3_readsDigits hb) rfl rfl (Nat.le_of_ble_eq_true rfl) (fun x3 σ4 => ?_)
    refine r_if_eq (pc := 61) (tgt := 79) X dX3_readsAll_61 (by decide) ?_ ?_
    · refine r_iconst (pc := 79) X dX3_readsAll_79 kc_0 ?_
      exact r_zret (pc := 80) X Z dX3_readsAll_80 rfl (Or.inl rfl)
    · refine r_aload_n (pc := 64) X dX3_readsAll_64 0 rfl rfl ?_
      refine r_iload_n (pc := 65) X dX3_readsAll_65 1 rfl rfl ?_
      refine r_iconst (pc := 66) X dX3_readsAll_66 kc_2 ?_
      refine r_iadd (pc := 67) X dX3_readsAll_67 ?_
      refine r_iconst (pc := 68) X dX3_readsAll_68 kc_1 ?_
      refine r_callvI (pc := 69) X dX3_readsAll_69 cf_X3_readsDigits ml_X3_117 (rf rfl rfl) hy oc_13.1 hc_3 (fun b hb => m_X3_readsDigits hb) rfl rfl (Nat.le_of_ble_eq_true rfl) (fun x5 σ6 => ?_)
      refine r_if_eq (pc := 72) (tgt := 79) X dX3_readsAll_72 (by decide) ?_ ?_
      · refine r_iconst (pc := 79) X dX3_readsAll_79 kc_0 ?_
        exact r_zret (pc := 80) X Z dX3_readsAll_80 rfl (Or.inl rfl)
      · refine r_iconst (pc := 75) X dX3_readsAll_75 kc_1 ?_
        refine r_goto (pc := 76) (tgt := 80) X dX3_readsAll_76 (by decide) ?_
        exact r_zret (pc := 80) X Z dX3_readsAll_80 rfl (Or.inr rfl)

set_option maxRecDepth 100000 in
theorem m_X3_readsAll {y : LY} {l : Launch}  {a0 : Int32} {a1 : Int32} {σ : ST} {a : (Int32 × ST)} (h : T_X3_readsAll a0 a1 σ = some a) : MU y l yX3_readsAll cX3_readsAll 3 (some .boolean) (rmd 2) [.ref (ad y 13), .int a0, .int a1] σ (xI a) := by
  refine MU.of (φ := xI) h (by decide +kernel) rfl (fun E X Z hy => ?_)
  have X : CX y l E cX3_readsAll 3 RX3 (rmd 2) := X
  show WW y l E 3 _ 0 [(0, .ref (ad y 13)), (1, .int a0), (2, .int a1)] [] σ (T_X3_readsAll a0 a1 σ)
  unfold T_X3_readsAll
  refine r_iload_n (pc := 0) X dX3_readsAll_0 1 rfl rfl ?_
  refine r_ite (fun h0 => ?_) (fun h0 => ?_)
  · refine r_lookup (pc := 1) (tgt := 44) (off := 43) X dX3_readsAll_1 (by decide) (by rw [h0]; decide) (by decide) ?_
    refine r_sub [0, 2] rfl ?_
    exact s_X3_readsAll_j44 X Z hy a1 σ
  · refine r_ite (fun h1 => ?_) (fun h1 => ?_)
    · refine r_lookup (pc := 1) (tgt := 81) (off := 80) X dX3_readsAll_1 (by decide) (by rw [h1]; decide) (by decide) ?_
      refine r_aload_n (pc := 81) X dX3_readsAll_81 0 rfl rfl ?_
      refine r_iload_n (pc := 82) X dX3_readsAll_82 2 rfl rfl ?_
      refine r_iconst (pc := 83) X dX3_readsAll_83 kc_1 ?_
      refine r_callvI (pc := 84) X dX3_readsAll_84 cf_X3_readsDigits ml_X3_117 (rf rfl rfl) hy oc_13.1 hc_3 (fun b hb => m_X3_readsDigits hb) rfl rfl (Nat.le_of_ble_eq_true rfl) (fun x7 σ8 => ?_)
      exact r_zretz (pc := 87) X Z dX3_readsAll_87 rfl
    · refine r_ite (fun h2 => ?_) (fun h2 => ?_)
      · refine r_lookup (pc := 1) (tgt := 88) (off := 87) X dX3_readsAll_1 (by decide) (by rw [h2]; decide) (by decide) ?_
        refine r_aload_n (pc := 88) X dX3_readsAll_88 0 rfl rfl ?_
        refine r_iload_n (pc := 89) X dX3_readsAll_89 2 rfl rfl ?_
        refine r_iconst (pc := 90) X dX3_readsAll_90 kc_2 ?_
        refine r_callvI (pc := 91) X dX3_readsAll_91 cf_X3_readsDigits ml_X3_117 (rf rfl rfl) hy oc_13.1 hc_3 (fun b hb => m_X3_readsDigits hb) rfl rfl (Nat.le_of_ble_eq_true rfl) (fun x5 σ6 => ?_)
        exact r_zretz (pc := 94) X Z dX3_readsAll_94 rfl
      · refine r_ite (fun h3 => ?_) (fun h3 => ?_)
        · refine r_lookup (pc := 1) (tgt := 44) (off := 43) X dX3_readsAll_1 (by decide) (by rw [h3]; decide) (by decide) ?_
          refine r_sub [0, 2] rfl ?_
          exact s_X3_readsAll_j44 X Z hy a1 σ
        · refine r_lookup (pc := 1) (tgt := 95) (off := 94) X dX3_readsAll_1 (by decide) ((lv_osw h0 (by decide)).trans ((lv_osw h1 (by decide)).trans ((lv_osw h2 (by decide)).trans ((lv_osw h3 (by decide)).trans rfl)))) (by decide) ?_
          refine r_aload_n (pc := 95) X dX3_readsAll_95 0 rfl rfl ?_
          refine r_iload_n (pc := 96) X dX3_readsAll_96 2 rfl rfl ?_
          refine r_iconst (pc := 97) X dX3_readsAll_97 kc_1 ?_
          refine r_callvI (pc := 98) X dX3_readsAll_98 cf_X3_readsDigits ml_X3_117 (rf rfl rfl) hy oc_13.1 hc_3 (fun b hb => m_X3_readsDigits hb) rfl rfl (Nat.le_of_ble_eq_true rfl) (fun x1 σ2 => ?_)
          refine r_if_eq (pc := 101) (tgt := 119) X dX3_readsAll_101 (by decide) ?_ ?_
          · refine r_iconst (pc := 119) X dX3_readsAll_119 kc_0 ?_
            exact r_zret (pc := 120) X Z dX3_readsAll_120 rfl (Or.inl rfl)
          · refine r_aload_n (pc := 104) X dX3_readsAll_104 0 rfl rfl ?_
            refine r_iload_n (pc := 105) X dX3_readsAll_105 2 rfl rfl ?_
            refine r_iconst (pc := 106) X dX3_readsAll_106 kc_1 ?_
            refine r_iadd (pc := 107) X dX3_readsAll_107 ?_
            refine r_iconst (pc := 108) X dX3_readsAll_108 kc_1 ?_
            refine r_callvI (pc := 109) X dX3_readsAll_109 cf_X3_readsDigits ml_X3_117 (rf rfl rfl) hy oc_13.1 hc_3 (fun b hb => m_X3_readsDigits hb) rfl rfl (Nat.le_of_ble_eq_true rfl) (fun x3 σ4 => ?_)
            refine r_if_eq (pc := 112) (tgt := 119) X dX3_readsAll_112 (by decide) ?_ ?_
            · refine r_iconst (pc := 119) X dX3_readsAll_119 kc_0 ?_
              exact r_zret (pc := 120) X Z dX3_readsAll_120 rfl (Or.inl rfl)
            · refine r_iconst (pc := 115) X dX3_readsAll_115 kc_1 ?_
              refine r_goto (pc := 116) (tgt := 120) X dX3_readsAll_116 (by decide) ?_
              exact r_zret (pc := 120) X Z dX3_readsAll_120 rfl (Or.inr rfl)

set_option maxRecDepth 100000 in
theorem s_X3_statement_j43 {y : LY} {l : Launch} {E : ET} (X : CX y l E cX3_statement 2 RX3 (rmd 3)) (Z : ZX E (some .boolean)) (hy : y.1 ≤ (eS E).heap.size)     (v1 : Int32) (σ : ST) : WW y l E 2 (fun a => QM y E (xI a)) 43 [(0, .ref (ad y 13)), (1, .int v1)] [] σ (T_X3_statement_j43   v1 σ) := by
  unfold T_X3_statement_j43
  refine r_aload_n (pc := 43) X dX3_statement_43 0 rfl rfl ?_
  refine r_geta (pc := 44) X dX3_statement_44 fl_X3_46 oc_13 (by decide) ?_
  refine r_aload_n (pc := 47) X dX3_statement_47 0 rfl rfl ?_
  refine r_geti (pc := 48) X dX3_statement_48 fl_X3_121 oc_13 rfl (fun x1 => ?_)
  refine r_iload_n (pc := 51) X dX3_statement_51 1 rfl rfl ?_
  refine r_iast (pc := 52) X dX3_statement_52 ar_13_16 (fun σ2 => ?_)
  refine r_aload_n (pc := 53) X dX3_statement_53 0 rfl rfl ?_
  refine r_geta (pc := 54) X dX3_statement_54 fl_X3_49 oc_13 (by decide) ?_
  refine r_aload_n (pc := 57) X dX3_statement_57 0 rfl rfl ?_
  refine r_geti (pc := 58) X dX3_statement_58 fl_X3_121 oc_13 rfl (fun x3 => ?_)
  refine r_aload_n (pc := 61) X dX3_statement_61 0 rfl rfl ?_
  refine r_geti (pc := 62) X dX3_statement_62 fl_X3_106 oc_13 rfl (fun x4 => ?_)
  refine r_iast (pc := 65) X dX3_statement_65 ar_13_17 (fun σ5 => ?_)
  refine r_aload_n (pc := 66) X dX3_statement_66 0 rfl rfl ?_
  refine r_dup (pc := 67) X dX3_statement_67 rfl ?_
  refine r_geti (pc := 68) X dX3_statement_68 fl_X3_106 oc_13 rfl (fun x6 => ?_)
  refine r_iconst (pc := 71) X dX3_statement_71 kc_1 ?_
  refine r_iadd (pc := 72) X dX3_statement_72 ?_
  refine r_puti (pc := 73) X dX3_statement_73 fl_X3_106 fw_3_20 oc_13 rfl (fun σ7 => ?_)
  refine r_aload_n (pc := 76) X dX3_statement_76 0 rfl rfl ?_
  refine r_iload_n (pc := 77) X dX3_statement_77 1 rfl rfl ?_
  refine r_iconst (pc := 78) X dX3_statement_78 kc_3 ?_
  refine r_aload_n (pc := 79) X dX3_statement_79 0 rfl rfl ?_
  refine r_geti (pc := 80) X dX3_statement_80 fl_X3_121 oc_13 rfl (fun x8 => ?_)
  refine r_imul (pc := 83) X dX3_statement_83 ?_
  refine r_callvI (pc := 84) X dX3_statement_84 cf_X3_readsAll ml_X3_124 (rf rfl rfl) hy oc_13.1 hc_3 (fun b hb => m_X3_readsAll hb) rfl rfl (Nat.le_of_ble_eq_true rfl) (fun x9 σ10 => ?_)
  refine r_if_eq (pc := 87) (tgt := 99) X dX3_statement_87 (by decide) ?_ ?_
  · refine r_iconst (pc := 99) X dX3_statement_99 kc_0 ?_
    exact r_zret (pc := 100) X Z dX3_statement_100 rfl (Or.inl rfl)
  · refine r_aload_n (pc := 90) X dX3_statement_90 0 rfl rfl ?_
    refine r_callvp (pc := 91) X dX3_statement_91 cf_X3_next ml_X3_109 (rf rfl rfl) hy oc_13.1 hc_3 (fun b hb => m_X3_next hb) rfl rfl (Nat.le_of_ble_eq_true rfl) (fun x11 => ?_)
    refine r_bipush (pc := 94) X dX3_statement_94 kb_59 ?_
    refine r_icmp_eq (pc := 96) (tgt := 101) X dX3_statement_96 (by decide) ?_ ?_
    · refine r_aload_n (pc := 101) X dX3_statement_101 0 rfl rfl ?_
      refine r_dup (pc := 102) X dX3_statement_102 rfl ?_
      refine r_geti (pc := 103) X dX3_statement_103 fl_X3_106 oc_13 rfl (fun x13 => ?_)
      refine r_iconst (pc := 106) X dX3_statement_106 kc_1 ?_
      refine r_iadd (pc := 107) X dX3_statement_107 ?_
      refine r_puti (pc := 108) X dX3_statement_108 fl_X3_106 fw_3_20 oc_13 rfl (fun σ14 => ?_)
      refine r_iconst (pc := 111) X dX3_statement_111 kc_1 ?_
      exact r_zret (pc := 112) X Z dX3_statement_112 rfl (Or.inr rfl)
    · refine r_iconst (pc := 99) X dX3_statement_99 kc_0 ?_
      exact r_zret (pc := 100) X Z dX3_statement_100 rfl (Or.inl rfl)

set_option maxRecDepth 100000 in
theorem m_X3_statement {y : LY} {l : Launch}   {σ : ST} {a : (Int32 × ST)} (h : T_X3_statement σ = some a) : MU y l yX3_statement cX3_statement 2 (some .boolean) (rmd 3) [.ref (ad y 13)] σ (xI a) := by
  refine MU.of (φ := xI) h (by decide +kernel) rfl (fun E X Z hy => ?_)
  have X : CX y l E cX3_statement 2 RX3 (rmd 3) := X
  show WW y l E 2 _ 0 [(0, .ref (ad y 13))] [] σ (T_X3_statement σ)
  unfold T_X3_statement
  refine r_aload_n (pc := 0) X dX3_statement_0 0 rfl rfl ?_
  refine r_callvp (pc := 1) X dX3_statement_1 cf_X3_next ml_X3_109 (rf rfl rfl) hy oc_13.1 hc_3 (fun b hb => m_X3_next hb) rfl rfl (Nat.le_of_ble_eq_true rfl) (fun x1 => ?_)
  refine r_istore_n (pc := 4) (lv' := [(1, .int _), (0, .ref _)]) X dX3_statement_4 rfl (by decide) rfl ?_
  refine r_iload_n (pc := 5) X dX3_statement_5 0 rfl rfl ?_
  refine r_bipush (pc := 6) X dX3_statement_6 kb_98 ?_
  refine r_icmp_eq (pc := 8) (tgt := 43) X dX3_statement_8 (by decide) ?_ ?_
  · refine r_sub [1, 0] rfl ?_
    exact s_X3_statement_j43 X Z hy x1 σ
  · refine r_iload_n (pc := 11) X dX3_statement_11 0 rfl rfl ?_
    refine r_bipush (pc := 12) X dX3_statement_12 kb_108 ?_
    refine r_icmp_eq (pc := 14) (tgt := 43) X dX3_statement_14 (by decide) ?_ ?_
    · refine r_sub [1, 0] rfl ?_
      exact s_X3_statement_j43 X Z hy x1 σ
    · refine r_iload_n (pc := 17) X dX3_statement_17 0 rfl rfl ?_
      refine r_bipush (pc := 18) X dX3_statement_18 kb_103 ?_
      refine r_icmp_eq (pc := 20) (tgt := 43) X dX3_statement_20 (by decide) ?_ ?_
      · refine r_sub [1, 0] rfl ?_
        exact s_X3_statement_j43 X Z hy x1 σ
      · refine r_iload_n (pc := 23) X dX3_statement_23 0 rfl rfl ?_
        refine r_bipush (pc := 24) X dX3_statement_24 kb_102 ?_
        refine r_icmp_eq (pc := 26) (tgt := 43) X dX3_statement_26 (by decide) ?_ ?_
        · refine r_sub [1, 0] rfl ?_
          exact s_X3_statement_j43 X Z hy x1 σ
        · refine r_iload_n (pc := 29) X dX3_statement_29 0 rfl rfl ?_
          refine r_bipush (pc := 30) X dX3_statement_30 kb_99 ?_
          refine r_icmp_eq (pc := 32) (tgt := 43) X dX3_statement_32 (by decide) ?_ ?_
          · refine r_sub [1, 0] rfl ?_
            exact s_X3_statement_j43 X Z hy x1 σ
          · refine r_iload_n (pc := 35) X dX3_statement_35 0 rfl rfl ?_
            refine r_bipush (pc := 36) X dX3_statement_36 kb_104 ?_
            refine r_icmp_eq (pc := 38) (tgt := 43) X dX3_statement_38 (by decide) ?_ ?_
            · refine r_sub [1, 0] rfl ?_
              exact s_X3_statement_j43 X Z hy x1 σ
            · refine r_iconst (pc := 41) X dX3_statement_41 kc_0 ?_
              exact r_zret (pc := 42) X Z dX3_statement_42 rfl (Or.inl rfl)

set_option maxRecDepth 100000 in
theorem s_X3_whoHas_L2 {y : LY} {l : Launch} {E : ET} (X : CX y l E cX3_whoHas 3 RX3 (rmd 0)) (Z : ZX E (some .int)) (hy : y.1 ≤ (eS E).heap.size)  {σ : ST}   (n : Nat) : ∀ (v1 : Int32) (v2 : Int32), WW y l E 3 (fun a => QM y E (xp σ a)) 2 [(0, .ref (ad y 13)), (1, .int v1), (2, .int v2)] [] σ (T_X3_whoHas_L2 σ n v1 v2) := by
  induction n with
  | zero => intros; exact r_none rfl
  | succ n ih =>
    intro v1 v2
    unfold T_X3_whoHas_L2
    refine r_iload_n (pc := 2) X dX3_whoHas_2 2 rfl rfl ?_
    refine r_aload_n (pc := 3) X dX3_whoHas_3 0 rfl rfl ?_
    refine r_geti (pc := 4) X dX3_whoHas_4 fl_X3_88 oc_13 rfl (fun x1 => ?_)
    refine r_icmp_ge (pc := 7) (tgt := 28) X dX3_whoHas_7 (by decide) ?_ ?_
    · refine r_bipush (pc := 28) X dX3_whoHas_28 kb_9 ?_
      exact r_iret (pc := 30) X Z dX3_whoHas_30 rfl
    · refine r_aload_n (pc := 10) X dX3_whoHas_10 0 rfl rfl ?_
      refine r_geta (pc := 11) X dX3_whoHas_11 fl_X3_37 oc_13 (by decide) ?_
      refine r_iload_n (pc := 14) X dX3_whoHas_14 2 rfl rfl ?_
      refine r_iald (pc := 15) X dX3_whoHas_15 ar_13_9 (fun x2 => ?_)
      refine r_iload_n (pc := 16) X dX3_whoHas_16 1 rfl rfl ?_
      refine r_icmp_ne (pc := 17) (tgt := 22) X dX3_whoHas_17 (by decide) ?_ ?_
      · refine r_iinc (pc := 22) (lv' := [(0, .ref _), (1, .int _)]) X dX3_whoHas_22 2 rfl (congrArg (fun z => v2 + z) kc_1) (by decide) rfl (fun x3 => ?_)
        refine r_goto (pc := 25) (tgt := 2) X dX3_whoHas_25 (by decide) ?_
        refine r_sub [1, 2, 0] rfl ?_
        exact ih v1 x3
      · refine r_iload_n (pc := 20) X dX3_whoHas_20 2 rfl rfl ?_
        exact r_iret (pc := 21) X Z dX3_whoHas_21 rfl

set_option maxRecDepth 100000 in
theorem m_X3_whoHas {y : LY} {l : Launch}  {a0 : Int32} {σ : ST} {a : Int32} (h : T_X3_whoHas σ a0 = some a) : MU y l yX3_whoHas cX3_whoHas 3 (some .int) (rmd 0) [.ref (ad y 13), .int a0] σ (xp σ a) := by
  refine MU.of (φ := xp σ) h (by decide +kernel) rfl (fun E X Z hy => ?_)
  have X : CX y l E cX3_whoHas 3 RX3 (rmd 0) := X
  show WW y l E 3 _ 0 [(0, .ref (ad y 13)), (1, .int a0)] [] σ (T_X3_whoHas σ a0)
  unfold T_X3_whoHas
  refine r_iconst (pc := 0) X dX3_whoHas_0 kc_0 ?_
  refine r_istore_n (pc := 1) (lv' := [(2, .int _), (0, .ref _), (1, .int _)]) X dX3_whoHas_1 rfl (by decide) rfl ?_
  refine r_sub [1, 2, 0] rfl ?_
  exact s_X3_whoHas_L2 X Z hy FU a0 0

set_option maxRecDepth 100000 in
theorem m_X3_isFriendOut {y : LY} {l : Launch}  {a0 : Int32} {σ : ST} {a : Int32} (h : T_X3_isFriendOut σ a0 = some a) : MU y l yX3_isFriendOut cX3_isFriendOut 2 (some .boolean) (rmd 1) [.ref (ad y 13), .int a0] σ (xp σ a) := by
  refine MU.of (φ := xp σ) h (by decide +kernel) rfl (fun E X Z hy => ?_)
  have X : CX y l E cX3_isFriendOut 2 RX3 (rmd 1) := X
  show WW y l E 2 _ 0 [(0, .ref (ad y 13)), (1, .int a0)] [] σ (T_X3_isFriendOut σ a0)
  unfold T_X3_isFriendOut
  refine r_aload_n (pc := 0) X dX3_isFriendOut_0 0 rfl rfl ?_
  refine r_geta (pc := 1) X dX3_isFriendOut_1 fl_X3_22 oc_13 (by decide) ?_
  refine r_iload_n (pc := 4) X dX3_isFriendOut_4 1 rfl rfl ?_
  refine r_iald (pc := 5) X dX3_isFriendOut_5 ar_13_4 (fun x1 => ?_)
  refine r_bipush (pc := 6) X dX3_isFriendOut_6 kb_9 ?_
  refine r_icmp_ge (pc := 8) (tgt := 30) X dX3_isFriendOut_8 (by decide) ?_ ?_
  · refine r_iconst (pc := 30) X dX3_isFriendOut_30 kc_0 ?_
    exact r_zret (pc := 31) X Z dX3_isFriendOut_31 rfl (Or.inl rfl)
  · refine r_aload_n (pc := 11) X dX3_isFriendOut_11 0 rfl rfl ?_
    refine r_aload_n (pc := 12) X dX3_isFriendOut_12 0 rfl rfl ?_
    refine r_geta (pc := 13) X dX3_isFriendOut_13 fl_X3_22 oc_13 (by decide) ?_
    refine r_iload_n (pc := 16) X dX3_isFriendOut_16 1 rfl rfl ?_
    refine r_iald (pc := 17) X dX3_isFriendOut_17 ar_13_4 (fun x2 => ?_)
    refine r_callvp (pc := 18) X dX3_isFriendOut_18 cf_X3_whoHas ml_X3_188 (rf rfl rfl) hy oc_13.1 hc_3 (fun b hb => m_X3_whoHas hb) rfl rfl (Nat.le_of_ble_eq_true rfl) (fun x3 => ?_)
    refine r_bipush (pc := 21) X dX3_isFriendOut_21 kb_9 ?_
    refine r_icmp_ge (pc := 23) (tgt := 30) X dX3_isFriendOut_23 (by decide) ?_ ?_
    · refine r_iconst (pc := 30) X dX3_isFriendOut_30 kc_0 ?_
      exact r_zret (pc := 31) X Z dX3_isFriendOut_31 rfl (Or.inl rfl)
    · refine r_iconst (pc := 26) X dX3_isFriendOut_26 kc_1 ?_
      refine r_goto (pc := 27) (tgt := 31) X dX3_isFriendOut_27 (by decide) ?_
      exact r_zret (pc := 31) X Z dX3_isFriendOut_31 rfl (Or.inr rfl)

set_option maxRecDepth 100000 in
theorem m_X3_pullOf {y : LY} {l : Launch}  {a0 : Int32} {σ : ST} {a : Int32} (h : T_X3_pullOf σ a0 = some a) : MU y l yX3_pullOf cX3_pullOf 2 (some .int) (rmd 2) [.ref (ad y 13), .int a0] σ (xp σ a) := by
  refine MU.of (φ := xp σ) h (by decide +kernel) rfl (fun E X Z hy => ?_)
  have X : CX y l E cX3_pullOf 2 RX3 (rmd 2) := X
  show WW y l E 2 _ 0 [(0, .ref (ad y 13)), (1, .int a0)] [] σ (T_X3_pullOf σ a0)
  unfold T_X3_pullOf
  refine r_aload_n (pc := 0) X dX3_pullOf_0 0 rfl rfl ?_
  refine r_geta (pc := 1) X dX3_pullOf_1 fl_X3_13 oc_13 (by decide) ?_
  refine r_iload_n (pc := 4) X dX3_pullOf_4 1 rfl rfl ?_
  refine r_iald (pc := 5) X dX3_pullOf_5 ar_13_1 (fun x1 => ?_)
  refine r_ite (fun h0 => ?_) (fun h0 => ?_)
  · refine r_tabIn (pc := 6) (tgt := 40) (off := 34) X dX3_pullOf_6 h0 (by decide) (by decide) (by decide) (by decide) ?_
    refine r_aload_n (pc := 40) X dX3_pullOf_40 0 rfl rfl ?_
    refine r_geta (pc := 41) X dX3_pullOf_41 fl_X3_16 oc_13 (by decide) ?_
    refine r_iload_n (pc := 44) X dX3_pullOf_44 1 rfl rfl ?_
    refine r_iald (pc := 45) X dX3_pullOf_45 ar_13_2 (fun x10 => ?_)
    refine r_aload_n (pc := 46) X dX3_pullOf_46 0 rfl rfl ?_
    refine r_geta (pc := 47) X dX3_pullOf_47 fl_X3_25 oc_13 (by decide) ?_
    refine r_iload_n (pc := 50) X dX3_pullOf_50 1 rfl rfl ?_
    refine r_iald (pc := 51) X dX3_pullOf_51 ar_13_5 (fun x11 => ?_)
    refine r_iadd (pc := 52) X dX3_pullOf_52 ?_
    exact r_iret (pc := 53) X Z dX3_pullOf_53 rfl
  · refine r_ite (fun h1 => ?_) (fun h1 => ?_)
    · refine r_tabIn (pc := 6) (tgt := 54) (off := 48) X dX3_pullOf_6 h1 (by decide) (by decide) (by decide) (by decide) ?_
      refine r_aload_n (pc := 54) X dX3_pullOf_54 0 rfl rfl ?_
      refine r_geta (pc := 55) X dX3_pullOf_55 fl_X3_16 oc_13 (by decide) ?_
      refine r_iload_n (pc := 58) X dX3_pullOf_58 1 rfl rfl ?_
      refine r_iald (pc := 59) X dX3_pullOf_59 ar_13_2 (fun x9 => ?_)
      refine r_iconst (pc := 60) X dX3_pullOf_60 kc_4 ?_
      refine r_iadd (pc := 61) X dX3_pullOf_61 ?_
      exact r_iret (pc := 62) X Z dX3_pullOf_62 rfl
    · refine r_ite (fun h2 => ?_) (fun h2 => ?_)
      · refine r_tabIn (pc := 6) (tgt := 63) (off := 57) X dX3_pullOf_6 h2 (by decide) (by decide) (by decide) (by decide) ?_
        refine r_aload_n (pc := 63) X dX3_pullOf_63 0 rfl rfl ?_
        refine r_geta (pc := 64) X dX3_pullOf_64 fl_X3_16 oc_13 (by decide) ?_
        refine r_iload_n (pc := 67) X dX3_pullOf_67 1 rfl rfl ?_
        refine r_iald (pc := 68) X dX3_pullOf_68 ar_13_2 (fun x8 => ?_)
        refine r_iconst (pc := 69) X dX3_pullOf_69 kc_2 ?_
        refine r_idiv (pc := 70) X dX3_pullOf_70 (by decide) ?_
        exact r_iret (pc := 71) X Z dX3_pullOf_71 rfl
      · refine r_ite (fun h3 => ?_) (fun h3 => ?_)
        · refine r_tabIn (pc := 6) (tgt := 72) (off := 66) X dX3_pullOf_6 h3 (by decide) (by decide) (by decide) (by decide) ?_
          refine r_aload_n (pc := 72) X dX3_pullOf_72 0 rfl rfl ?_
          refine r_geta (pc := 73) X dX3_pullOf_73 fl_X3_16 oc_13 (by decide) ?_
          refine r_iload_n (pc := 76) X dX3_pullOf_76 1 rfl rfl ?_
          refine r_iald (pc := 77) X dX3_pullOf_77 ar_13_2 (fun x5 => ?_)
          refine r_aload_n (pc := 78) X dX3_pullOf_78 0 rfl rfl ?_
          refine r_iload_n (pc := 79) X dX3_pullOf_79 1 rfl rfl ?_
          refine r_callvp (pc := 80) X dX3_pullOf_80 cf_X3_isFriendOut ml_X3_195 (rf rfl rfl) hy oc_13.1 hc_3 (fun b hb => m_X3_isFriendOut hb) rfl rfl (Nat.le_of_ble_eq_true rfl) (fun x6 => ?_)
          refine r_if_eq (pc := 83) (tgt := 90) X dX3_pullOf_83 (by decide) ?_ ?_
          · refine r_iconst (pc := 90) X dX3_pullOf_90 kc_0 ?_
            refine r_iadd (pc := 91) X dX3_pullOf_91 ?_
            exact r_iret (pc := 92) X Z dX3_pullOf_92 rfl
          · refine r_iconst (pc := 86) X dX3_pullOf_86 kc_2 ?_
            refine r_goto (pc := 87) (tgt := 91) X dX3_pullOf_87 (by decide) ?_
            refine r_iadd (pc := 91) X dX3_pullOf_91 ?_
            exact r_iret (pc := 92) X Z dX3_pullOf_92 rfl
        · refine r_ite (fun h4 => ?_) (fun h4 => ?_)
          · refine r_tabIn (pc := 6) (tgt := 93) (off := 87) X dX3_pullOf_6 h4 (by decide) (by decide) (by decide) (by decide) ?_
            refine r_iconst (pc := 93) X dX3_pullOf_93 kc_2 ?_
            refine r_aload_n (pc := 94) X dX3_pullOf_94 0 rfl rfl ?_
            refine r_geta (pc := 95) X dX3_pullOf_95 fl_X3_16 oc_13 (by decide) ?_
            refine r_iload_n (pc := 98) X dX3_pullOf_98 1 rfl rfl ?_
            refine r_iald (pc := 99) X dX3_pullOf_99 ar_13_2 (fun x3 => ?_)
            refine r_aload_n (pc := 100) X dX3_pullOf_100 0 rfl rfl ?_
            refine r_geta (pc := 101) X dX3_pullOf_101 fl_X3_25 oc_13 (by decide) ?_
            refine r_iload_n (pc := 104) X dX3_pullOf_104 1 rfl rfl ?_
            refine r_iald (pc := 105) X dX3_pullOf_105 ar_13_5 (fun x4 => ?_)
            refine r_iadd (pc := 106) X dX3_pullOf_106 ?_
            refine r_imul (pc := 107) X dX3_pullOf_107 ?_
            exact r_iret (pc := 108) X Z dX3_pullOf_108 rfl
          · refine r_tabOut (pc := 6) (tgt := 109) X dX3_pullOf_6 (tab_out [(1 : Int32), (2 : Int32), (3 : Int32), (4 : Int32), (5 : Int32)] (List.forall_mem_cons.mpr ⟨h0, List.forall_mem_cons.mpr ⟨h1, List.forall_mem_cons.mpr ⟨h2, List.forall_mem_cons.mpr ⟨h3, List.forall_mem_cons.mpr ⟨h4, List.forall_mem_nil _⟩⟩⟩⟩⟩) (by decide)) (by decide) ?_
            refine r_aload_n (pc := 109) X dX3_pullOf_109 0 rfl rfl ?_
            refine r_geta (pc := 110) X dX3_pullOf_110 fl_X3_16 oc_13 (by decide) ?_
            refine r_iload_n (pc := 113) X dX3_pullOf_113 1 rfl rfl ?_
            refine r_iald (pc := 114) X dX3_pullOf_114 ar_13_2 (fun x2 => ?_)
            exact r_iret (pc := 115) X Z dX3_pullOf_115 rfl

set_option maxRecDepth 100000 in
theorem m_X3_isLed {y : LY} {l : Launch}  {a0 : Int32} {σ : ST} {a : Int32} (h : T_X3_isLed σ a0 = some a) : MU y l yX3_isLed cX3_isLed 2 (some .boolean) (rmd 3) [.ref (ad y 13), .int a0] σ (xp σ a) := by
  refine MU.of (φ := xp σ) h (by decide +kernel) rfl (fun E X Z hy => ?_)
  have X : CX y l E cX3_isLed 2 RX3 (rmd 3) := X
  show WW y l E 2 _ 0 [(0, .ref (ad y 13)), (1, .int a0)] [] σ (T_X3_isLed σ a0)
  unfold T_X3_isLed
  refine r_aload_n (pc := 0) X dX3_isLed_0 0 rfl rfl ?_
  refine r_geta (pc := 1) X dX3_isLed_1 fl_X3_37 oc_13 (by decide) ?_
  refine r_iload_n (pc := 4) X dX3_isLed_4 1 rfl rfl ?_
  refine r_iald (pc := 5) X dX3_isLed_5 ar_13_9 (fun x1 => ?_)
  refine r_bipush (pc := 6) X dX3_isLed_6 kb_9 ?_
  refine r_icmp_ge (pc := 8) (tgt := 34) X dX3_isLed_8 (by decide) ?_ ?_
  · refine r_iconst (pc := 34) X dX3_isLed_34 kc_0 ?_
    exact r_zret (pc := 35) X Z dX3_isLed_35 rfl (Or.inl rfl)
  · refine r_aload_n (pc := 11) X dX3_isLed_11 0 rfl rfl ?_
    refine r_aload_n (pc := 12) X dX3_isLed_12 0 rfl rfl ?_
    refine r_geta (pc := 13) X dX3_isLed_13 fl_X3_37 oc_13 (by decide) ?_
    refine r_iload_n (pc := 16) X dX3_isLed_16 1 rfl rfl ?_
    refine r_iald (pc := 17) X dX3_isLed_17 ar_13_9 (fun x2 => ?_)
    refine r_callvp (pc := 18) X dX3_isLed_18 cf_X3_pullOf ml_X3_198 (rf rfl rfl) hy oc_13.1 hc_3 (fun b hb => m_X3_pullOf hb) rfl rfl (Nat.le_of_ble_eq_true rfl) (fun x3 => ?_)
    refine r_aload_n (pc := 21) X dX3_isLed_21 0 rfl rfl ?_
    refine r_geta (pc := 22) X dX3_isLed_22 fl_X3_28 oc_13 (by decide) ?_
    refine r_iload_n (pc := 25) X dX3_isLed_25 1 rfl rfl ?_
    refine r_iald (pc := 26) X dX3_isLed_26 ar_13_6 (fun x5 => ?_)
    refine r_icmp_le (pc := 27) (tgt := 34) X dX3_isLed_27 (by decide) ?_ ?_
    · refine r_iconst (pc := 34) X dX3_isLed_34 kc_0 ?_
      exact r_zret (pc := 35) X Z dX3_isLed_35 rfl (Or.inl rfl)
    · refine r_iconst (pc := 30) X dX3_isLed_30 kc_1 ?_
      refine r_goto (pc := 31) (tgt := 35) X dX3_isLed_31 (by decide) ?_
      exact r_zret (pc := 35) X Z dX3_isLed_35 rfl (Or.inr rfl)

set_option maxRecDepth 100000 in
theorem s_X3_goalOf_j42 {y : LY} {l : Launch} {E : ET} (X : CX y l E cX3_goalOf 3 RX3 (rmd 2)) (Z : ZX E (some .int)) (hy : y.1 ≤ (eS E).heap.size)  {σ : ST}   (v1 : Int32) : WW y l E 3 (fun a => QM y E (xp σ a)) 42 [(0, .ref (ad y 13)), (1, .int v1)] [] σ (T_X3_goalOf_j42 σ  v1) := by
  unfold T_X3_goalOf_j42
  refine r_aload_n (pc := 42) X dX3_goalOf_42 0 rfl rfl ?_
  refine r_geta (pc := 43) X dX3_goalOf_43 fl_X3_13 oc_13 (by decide) ?_
  refine r_iload_n (pc := 46) X dX3_goalOf_46 1 rfl rfl ?_
  refine r_iald (pc := 47) X dX3_goalOf_47 ar_13_1 (fun x1 => ?_)
  refine r_iconst (pc := 48) X dX3_goalOf_48 kc_4 ?_
  refine r_icmp_ne (pc := 49) (tgt := 78) X dX3_goalOf_49 (by decide) ?_ ?_
  · refine r_aload_n (pc := 78) X dX3_goalOf_78 0 rfl rfl ?_
    refine r_geta (pc := 79) X dX3_goalOf_79 fl_X3_19 oc_13 (by decide) ?_
    refine r_iload_n (pc := 82) X dX3_goalOf_82 1 rfl rfl ?_
    refine r_iald (pc := 83) X dX3_goalOf_83 ar_13_3 (fun x2 => ?_)
    exact r_iret (pc := 84) X Z dX3_goalOf_84 rfl
  · refine r_aload_n (pc := 52) X dX3_goalOf_52 0 rfl rfl ?_
    refine r_iload_n (pc := 53) X dX3_goalOf_53 1 rfl rfl ?_
    refine r_callvp (pc := 54) X dX3_goalOf_54 cf_X3_isFriendOut ml_X3_195 (rf rfl rfl) hy oc_13.1 hc_3 (fun b hb => m_X3_isFriendOut hb) rfl rfl (Nat.le_of_ble_eq_true rfl) (fun x3 => ?_)
    refine r_if_eq (pc := 57) (tgt := 78) X dX3_goalOf_57 (by decide) ?_ ?_
    · refine r_aload_n (pc := 78) X dX3_goalOf_78 0 rfl rfl ?_
      refine r_geta (pc := 79) X dX3_goalOf_79 fl_X3_19 oc_13 (by decide) ?_
      refine r_iload_n (pc := 82) X dX3_goalOf_82 1 rfl rfl ?_
      refine r_iald (pc := 83) X dX3_goalOf_83 ar_13_3 (fun x5 => ?_)
      exact r_iret (pc := 84) X Z dX3_goalOf_84 rfl
    · refine r_aload_n (pc := 60) X dX3_goalOf_60 0 rfl rfl ?_
      refine r_geta (pc := 61) X dX3_goalOf_61 fl_X3_34 oc_13 (by decide) ?_
      refine r_aload_n (pc := 64) X dX3_goalOf_64 0 rfl rfl ?_
      refine r_aload_n (pc := 65) X dX3_goalOf_65 0 rfl rfl ?_
      refine r_geta (pc := 66) X dX3_goalOf_66 fl_X3_22 oc_13 (by decide) ?_
      refine r_iload_n (pc := 69) X dX3_goalOf_69 1 rfl rfl ?_
      refine r_iald (pc := 70) X dX3_goalOf_70 ar_13_4 (fun x6 => ?_)
      refine r_callvp (pc := 71) X dX3_goalOf_71 cf_X3_whoHas ml_X3_188 (rf rfl rfl) hy oc_13.1 hc_3 (fun b hb => m_X3_whoHas hb) rfl rfl (Nat.le_of_ble_eq_true rfl) (fun x7 => ?_)
      refine r_iald (pc := 74) X dX3_goalOf_74 ar_13_8 (fun x9 => ?_)
      refine r_goto (pc := 75) (tgt := 84) X dX3_goalOf_75 (by decide) ?_
      exact r_iret (pc := 84) X Z dX3_goalOf_84 rfl

set_option maxRecDepth 100000 in
theorem m_X3_goalOf {y : LY} {l : Launch}  {a0 : Int32} {a1 : Int32} {σ : ST} {a : Int32} (h : T_X3_goalOf σ a0 a1 = some a) : MU y l yX3_goalOf cX3_goalOf 3 (some .int) (rmd 2) [.ref (ad y 13), .int a0, .int a1] σ (xp σ a) := by
  refine MU.of (φ := xp σ) h (by decide +kernel) rfl (fun E X Z hy => ?_)
  have X : CX y l E cX3_goalOf 3 RX3 (rmd 2) := X
  show WW y l E 3 _ 0 [(0, .ref (ad y 13)), (1, .int a0), (2, .int a1)] [] σ (T_X3_goalOf σ a0 a1)
  unfold T_X3_goalOf
  refine r_aload_n (pc := 0) X dX3_goalOf_0 0 rfl rfl ?_
  refine r_geta (pc := 1) X dX3_goalOf_1 fl_X3_13 oc_13 (by decide) ?_
  refine r_iload_n (pc := 4) X dX3_goalOf_4 1 rfl rfl ?_
  refine r_iald (pc := 5) X dX3_goalOf_5 ar_13_1 (fun x1 => ?_)
  refine r_iconst (pc := 6) X dX3_goalOf_6 kc_2 ?_
  refine r_icmp_ne (pc := 7) (tgt := 20) X dX3_goalOf_7 (by decide) ?_ ?_
  · refine r_aload_n (pc := 20) X dX3_goalOf_20 0 rfl rfl ?_
    refine r_geta (pc := 21) X dX3_goalOf_21 fl_X3_13 oc_13 (by decide) ?_
    refine r_iload_n (pc := 24) X dX3_goalOf_24 1 rfl rfl ?_
    refine r_iald (pc := 25) X dX3_goalOf_25 ar_13_1 (fun x2 => ?_)
    refine r_iconst (pc := 26) X dX3_goalOf_26 kc_3 ?_
    refine r_icmp_ne (pc := 27) (tgt := 42) X dX3_goalOf_27 (by decide) ?_ ?_
    · refine r_sub [0, 1] rfl ?_
      exact s_X3_goalOf_j42 X Z hy a0
    · refine r_aload_n (pc := 30) X dX3_goalOf_30 0 rfl rfl ?_
      refine r_geti (pc := 31) X dX3_goalOf_31 fl_X3_127 oc_13 rfl (fun x3 => ?_)
      refine r_iconst (pc := 34) X dX3_goalOf_34 kc_2 ?_
      refine r_irem (pc := 35) X dX3_goalOf_35 (by decide) ?_
      refine r_iconst (pc := 36) X dX3_goalOf_36 kc_1 ?_
      refine r_icmp_ne (pc := 37) (tgt := 42) X dX3_goalOf_37 (by decide) ?_ ?_
      · refine r_sub [0, 1] rfl ?_
        exact s_X3_goalOf_j42 X Z hy a0
      · refine r_iload_n (pc := 40) X dX3_goalOf_40 2 rfl rfl ?_
        exact r_iret (pc := 41) X Z dX3_goalOf_41 rfl
  · refine r_aload_n (pc := 10) X dX3_goalOf_10 0 rfl rfl ?_
    refine r_geti (pc := 11) X dX3_goalOf_11 fl_X3_151 oc_13 rfl (fun x4 => ?_)
    refine r_iconst (pc := 14) X dX3_goalOf_14 kc_5 ?_
    refine r_iadd (pc := 15) X dX3_goalOf_15 ?_
    refine r_bipush (pc := 16) X dX3_goalOf_16 kb_10 ?_
    refine r_irem (pc := 18) X dX3_goalOf_18 (by decide) ?_
    exact r_iret (pc := 19) X Z dX3_goalOf_19 rfl

set_option maxRecDepth 100000 in
theorem m_X3_towards {y : LY} {l : Launch}  {a0 : Int32} {a1 : Int32} {σ : ST} {a : Int32} (h : T_X3_towards σ a0 a1 = some a) : MU y l yX3_towards cX3_towards 3 (some .int) (rmd 0) [.int a0, .int a1] σ (xp σ a) := by
  refine MU.of (φ := xp σ) h (by decide +kernel) rfl (fun E X Z hy => ?_)
  have X : CX y l E cX3_towards 3 RX3 (rmd 0) := X
  show WW y l E 3 _ 0 [(0, .int a0), (1, .int a1)] [] σ (T_X3_towards σ a0 a1)
  unfold T_X3_towards
  refine r_iload_n (pc := 0) X dX3_towards_0 1 rfl rfl ?_
  refine r_iload_n (pc := 1) X dX3_towards_1 0 rfl rfl ?_
  refine r_isub (pc := 2) X dX3_towards_2 ?_
  refine r_bipush (pc := 3) X dX3_towards_3 kb_10 ?_
  refine r_iadd (pc := 5) X dX3_towards_5 ?_
  refine r_bipush (pc := 6) X dX3_towards_6 kb_10 ?_
  refine r_irem (pc := 8) X dX3_towards_8 (by decide) ?_
  refine r_vl (fun x1 => ?_)
  refine r_istore_n (pc := 9) (lv' := [(2, .int _), (0, .int _), (1, .int _)]) X dX3_towards_9 rfl (by decide) rfl ?_
  refine r_iload_n (pc := 10) X dX3_towards_10 0 rfl rfl ?_
  refine r_if_ne (pc := 11) (tgt := 18) X dX3_towards_11 (by decide) ?_ ?_
  · refine r_iload_n (pc := 18) X dX3_towards_18 0 rfl rfl ?_
    refine r_iconst (pc := 19) X dX3_towards_19 kc_5 ?_
    refine r_icmp_gt (pc := 20) (tgt := 32) X dX3_towards_20 (by decide) ?_ ?_
    · refine r_iload_n (pc := 32) X dX3_towards_32 1 rfl rfl ?_
      refine r_bipush (pc := 33) X dX3_towards_33 kb_9 ?_
      refine r_iadd (pc := 35) X dX3_towards_35 ?_
      refine r_bipush (pc := 36) X dX3_towards_36 kb_10 ?_
      refine r_irem (pc := 38) X dX3_towards_38 (by decide) ?_
      exact r_iret (pc := 39) X Z dX3_towards_39 rfl
    · refine r_iload_n (pc := 23) X dX3_towards_23 1 rfl rfl ?_
      refine r_iconst (pc := 24) X dX3_towards_24 kc_1 ?_
      refine r_iadd (pc := 25) X dX3_towards_25 ?_
      refine r_bipush (pc := 26) X dX3_towards_26 kb_10 ?_
      refine r_irem (pc := 28) X dX3_towards_28 (by decide) ?_
      refine r_goto (pc := 29) (tgt := 39) X dX3_towards_29 (by decide) ?_
      exact r_iret (pc := 39) X Z dX3_towards_39 rfl
  · refine r_iload_n (pc := 14) X dX3_towards_14 1 rfl rfl ?_
    refine r_goto (pc := 15) (tgt := 39) X dX3_towards_15 (by decide) ?_
    exact r_iret (pc := 39) X Z dX3_towards_39 rfl

set_option maxRecDepth 100000 in
theorem s_X3_goesLed_L36 {y : LY} {l : Launch} {E : ET} (X : CX y l E cX3_goesLed 5 RX3 (rmd 3)) (Z : ZX E none) (hy : y.1 ≤ (eS E).heap.size)     (n : Nat) : ∀ (v1 : Int32) (v3 : Int32) (v4 : Int32) (σ : ST), WW y l E 5 (fun a => QM y E (xV a)) 36 [(0, .ref (ad y 13)), (1, .int v1), (3, .int v3), (4, .int v4)] [] σ (T_X3_goesLed_L36  n v1 v3 v4 σ) := by
  induction n with
  | zero => intros; exact r_none rfl
  | succ n ih =>
    intro v1 v3 v4 σ
    unfold T_X3_goesLed_L36
    refine r_iload (pc := 36) X dX3_goesLed_36 3 rfl ?_
    refine r_if_le (pc := 38) (tgt := 96) X dX3_goesLed_38 (by decide) ?_ ?_
    · exact r_vret (pc := 96) X Z dX3_goesLed_96 rfl
    · refine r_aload_n (pc := 41) X dX3_goesLed_41 0 rfl rfl ?_
      refine r_geta (pc := 42) X dX3_goesLed_42 fl_X3_34 oc_13 (by decide) ?_
      refine r_iload_n (pc := 45) X dX3_goesLed_45 1 rfl rfl ?_
      refine r_iald (pc := 46) X dX3_goesLed_46 ar_13_8 (fun x1 => ?_)
      refine r_iload_n (pc := 47) X dX3_goesLed_47 2 rfl rfl ?_
      refine r_icmp_eq (pc := 48) (tgt := 96) X dX3_goesLed_48 (by decide) ?_ ?_
      · exact r_vret (pc := 96) X Z dX3_goesLed_96 rfl
      · refine r_aload_n (pc := 51) X dX3_goesLed_51 0 rfl rfl ?_
        refine r_geta (pc := 52) X dX3_goesLed_52 fl_X3_34 oc_13 (by decide) ?_
        refine r_iload_n (pc := 55) X dX3_goesLed_55 1 rfl rfl ?_
        refine r_aload_n (pc := 56) X dX3_goesLed_56 0 rfl rfl ?_
        refine r_geta (pc := 57) X dX3_goesLed_57 fl_X3_34 oc_13 (by decide) ?_
        refine r_iload_n (pc := 60) X dX3_goesLed_60 1 rfl rfl ?_
        refine r_iald (pc := 61) X dX3_goesLed_61 ar_13_8 (fun x2 => ?_)
        refine r_iload_n (pc := 62) X dX3_goesLed_62 2 rfl rfl ?_
        refine r_callsp (pc := 63) X dX3_goesLed_63 cf_X3_towards ml_X3_205 (rf rfl rfl) hy (fun b hb => m_X3_towards hb) rfl rfl (Nat.le_of_ble_eq_true rfl) (fun x3 => ?_)
        refine r_iast (pc := 66) X dX3_goesLed_66 ar_13_8 (fun σ5 => ?_)
        refine r_aload_n (pc := 67) X dX3_goesLed_67 0 rfl rfl ?_
        refine r_geta (pc := 68) X dX3_goesLed_68 fl_X3_40 oc_13 (by decide) ?_
        refine r_iload_n (pc := 71) X dX3_goesLed_71 1 rfl rfl ?_
        refine r_dup2 (pc := 72) X dX3_goesLed_72 rfl rfl ?_
        refine r_iald (pc := 73) X dX3_goesLed_73 ar_13_10 (fun x6 => ?_)
        refine r_aload_n (pc := 74) X dX3_goesLed_74 0 rfl rfl ?_
        refine r_geta (pc := 75) X dX3_goesLed_75 fl_X3_40 oc_13 (by decide) ?_
        refine r_iload_n (pc := 78) X dX3_goesLed_78 1 rfl rfl ?_
        refine r_iald (pc := 79) X dX3_goesLed_79 ar_13_10 (fun x7 => ?_)
        refine r_if_le (pc := 80) (tgt := 87) X dX3_goesLed_80 (by decide) ?_ ?_
        · refine r_iconst (pc := 87) X dX3_goesLed_87 kc_0 ?_
          refine r_isub (pc := 88) X dX3_goesLed_88 ?_
          refine r_iast (pc := 89) X dX3_goesLed_89 ar_13_10 (fun σ8 => ?_)
          refine r_iinc (pc := 90) (lv' := [(0, .ref _), (1, .int _), (3, .int _)]) X dX3_goesLed_90 3 rfl (congrArg (fun z => v4 + z) kc_m1) (by decide) rfl (fun x9 => ?_)
          refine r_goto (pc := 93) (tgt := 36) X dX3_goesLed_93 (by decide) ?_
          refine r_sub [1, 2, 3, 0] rfl ?_
          exact ih v1 v3 x9 σ8
        · refine r_iconst (pc := 83) X dX3_goesLed_83 kc_1 ?_
          refine r_goto (pc := 84) (tgt := 88) X dX3_goesLed_84 (by decide) ?_
          refine r_isub (pc := 88) X dX3_goesLed_88 ?_
          refine r_iast (pc := 89) X dX3_goesLed_89 ar_13_10 (fun σ10 => ?_)
          refine r_iinc (pc := 90) (lv' := [(0, .ref _), (1, .int _), (3, .int _)]) X dX3_goesLed_90 3 rfl (congrArg (fun z => v4 + z) kc_m1) (by decide) rfl (fun x11 => ?_)
          refine r_goto (pc := 93) (tgt := 36) X dX3_goesLed_93 (by decide) ?_
          refine r_sub [1, 2, 3, 0] rfl ?_
          exact ih v1 v3 x11 σ10

set_option maxRecDepth 100000 in
theorem m_X3_goesLed {y : LY} {l : Launch}  {a0 : Int32} {σ : ST} {a : ST} (h : T_X3_goesLed a0 σ = some a) : MU y l yX3_goesLed cX3_goesLed 5 none (rmd 3) [.ref (ad y 13), .int a0] σ (xV a) := by
  refine MU.of (φ := xV) h (by decide +kernel) rfl (fun E X Z hy => ?_)
  have X : CX y l E cX3_goesLed 5 RX3 (rmd 3) := X
  show WW y l E 5 _ 0 [(0, .ref (ad y 13)), (1, .int a0)] [] σ (T_X3_goesLed a0 σ)
  unfold T_X3_goesLed
  refine r_aload_n (pc := 0) X dX3_goesLed_0 0 rfl rfl ?_
  refine r_geta (pc := 1) X dX3_goesLed_1 fl_X3_37 oc_13 (by decide) ?_
  refine r_iload_n (pc := 4) X dX3_goesLed_4 1 rfl rfl ?_
  refine r_iald (pc := 5) X dX3_goesLed_5 ar_13_9 (fun x1 => ?_)
  refine r_istore_n (pc := 6) (lv' := [(2, .int _), (0, .ref _), (1, .int _)]) X dX3_goesLed_6 rfl (by decide) rfl ?_
  refine r_aload_n (pc := 7) X dX3_goesLed_7 1 rfl rfl ?_
  refine r_iload_n (pc := 8) X dX3_goesLed_8 0 rfl rfl ?_
  refine r_aload_n (pc := 9) X dX3_goesLed_9 1 rfl rfl ?_
  refine r_geta (pc := 10) X dX3_goesLed_10 fl_X3_31 oc_13 (by decide) ?_
  refine r_iload_n (pc := 13) X dX3_goesLed_13 2 rfl rfl ?_
  refine r_iald (pc := 14) X dX3_goesLed_14 ar_13_7 (fun x2 => ?_)
  refine r_callvp (pc := 15) X dX3_goesLed_15 cf_X3_goalOf ml_X3_201 (rf rfl rfl) hy oc_13.1 hc_3 (fun b hb => m_X3_goalOf hb) rfl rfl (Nat.le_of_ble_eq_true rfl) (fun x3 => ?_)
  refine r_istore_n (pc := 18) (lv' := [(3, .int _), (2, .int _), (0, .ref _), (1, .int _)]) X dX3_goesLed_18 rfl (by decide) rfl ?_
  refine r_aload_n (pc := 19) X dX3_goesLed_19 2 rfl rfl ?_
  refine r_geta (pc := 20) X dX3_goesLed_20 fl_X3_13 oc_13 (by decide) ?_
  refine r_iload_n (pc := 23) X dX3_goesLed_23 1 rfl rfl ?_
  refine r_iald (pc := 24) X dX3_goesLed_24 ar_13_1 (fun x5 => ?_)
  refine r_iconst (pc := 25) X dX3_goesLed_25 kc_5 ?_
  refine r_icmp_ne (pc := 26) (tgt := 33) X dX3_goesLed_26 (by decide) ?_ ?_
  · refine r_iconst (pc := 33) X dX3_goesLed_33 kc_1 ?_
    refine r_istore (pc := 34) (lv' := [(4, .int _), (3, .int _), (2, .int _), (0, .ref _), (1, .int _)]) X dX3_goesLed_34 (by decide) rfl ?_
    refine r_sub [3, 4, 1, 0] rfl ?_
    exact s_X3_goesLed_L36 X Z hy FU a0 x3 1 σ
  · refine r_iconst (pc := 29) X dX3_goesLed_29 kc_2 ?_
    refine r_goto (pc := 30) (tgt := 34) X dX3_goesLed_30 (by decide) ?_
    refine r_istore (pc := 34) (lv' := [(4, .int _), (3, .int _), (2, .int _), (0, .ref _), (1, .int _)]) X dX3_goesLed_34 (by decide) rfl ?_
    refine r_sub [3, 4, 1, 0] rfl ?_
    exact s_X3_goesLed_L36 X Z hy FU a0 x3 2 σ

set_option maxRecDepth 100000 in
theorem s_X3_goesOne_j55 {y : LY} {l : Launch} {E : ET} (X : CX y l E cX3_goesOne 3 RX3 (rmd 4)) (Z : ZX E none) (hy : y.1 ≤ (eS E).heap.size)     (v1 : Int32) (σ : ST) : WW y l E 3 (fun a => QM y E (xV a)) 55 [(0, .ref (ad y 13)), (1, .int v1)] [] σ (T_X3_goesOne_j55   v1 σ) := by
  unfold T_X3_goesOne_j55
  refine r_aload_n (pc := 55) X dX3_goesOne_55 0 rfl rfl ?_
  refine r_geta (pc := 56) X dX3_goesOne_56 fl_X3_34 oc_13 (by decide) ?_
  refine r_iload_n (pc := 59) X dX3_goesOne_59 1 rfl rfl ?_
  refine r_aload_n (pc := 60) X dX3_goesOne_60 0 rfl rfl ?_
  refine r_geta (pc := 61) X dX3_goesOne_61 fl_X3_34 oc_13 (by decide) ?_
  refine r_iload_n (pc := 64) X dX3_goesOne_64 1 rfl rfl ?_
  refine r_iald (pc := 65) X dX3_goesOne_65 ar_13_8 (fun x1 => ?_)
  refine r_aload_n (pc := 66) X dX3_goesOne_66 0 rfl rfl ?_
  refine r_geta (pc := 67) X dX3_goesOne_67 fl_X3_31 oc_13 (by decide) ?_
  refine r_iload_n (pc := 70) X dX3_goesOne_70 1 rfl rfl ?_
  refine r_iald (pc := 71) X dX3_goesOne_71 ar_13_7 (fun x2 => ?_)
  refine r_callsp (pc := 72) X dX3_goesOne_72 cf_X3_towards ml_X3_205 (rf rfl rfl) hy (fun b hb => m_X3_towards hb) rfl rfl (Nat.le_of_ble_eq_true rfl) (fun x3 => ?_)
  refine r_iast (pc := 75) X dX3_goesOne_75 ar_13_8 (fun σ5 => ?_)
  refine r_aload_n (pc := 76) X dX3_goesOne_76 0 rfl rfl ?_
  refine r_geta (pc := 77) X dX3_goesOne_77 fl_X3_40 oc_13 (by decide) ?_
  refine r_iload_n (pc := 80) X dX3_goesOne_80 1 rfl rfl ?_
  refine r_dup2 (pc := 81) X dX3_goesOne_81 rfl rfl ?_
  refine r_iald (pc := 82) X dX3_goesOne_82 ar_13_10 (fun x6 => ?_)
  refine r_aload_n (pc := 83) X dX3_goesOne_83 0 rfl rfl ?_
  refine r_geta (pc := 84) X dX3_goesOne_84 fl_X3_40 oc_13 (by decide) ?_
  refine r_iload_n (pc := 87) X dX3_goesOne_87 1 rfl rfl ?_
  refine r_iald (pc := 88) X dX3_goesOne_88 ar_13_10 (fun x7 => ?_)
  refine r_bipush (pc := 89) X dX3_goesOne_89 kb_9 ?_
  refine r_icmp_ge (pc := 91) (tgt := 98) X dX3_goesOne_91 (by decide) ?_ ?_
  · refine r_iconst (pc := 98) X dX3_goesOne_98 kc_0 ?_
    refine r_iadd (pc := 99) X dX3_goesOne_99 ?_
    refine r_iast (pc := 100) X dX3_goesOne_100 ar_13_10 (fun σ8 => ?_)
    exact r_vret (pc := 101) X Z dX3_goesOne_101 rfl
  · refine r_iconst (pc := 94) X dX3_goesOne_94 kc_1 ?_
    refine r_goto (pc := 95) (tgt := 99) X dX3_goesOne_95 (by decide) ?_
    refine r_iadd (pc := 99) X dX3_goesOne_99 ?_
    refine r_iast (pc := 100) X dX3_goesOne_100 ar_13_10 (fun σ9 => ?_)
    exact r_vret (pc := 101) X Z dX3_goesOne_101 rfl

set_option maxRecDepth 100000 in
theorem m_X3_goesOne {y : LY} {l : Launch}  {a0 : Int32} {a1 : Int32} {σ : ST} {a : ST} (h : T_X3_goesOne a0 a1 σ = some a) : MU y l yX3_goesOne cX3_goesOne 3 none (rmd 4) [.ref (ad y 13), .int a0, .int a1] σ (xV a) := by
  refine MU.of (φ := xV) h (by decide +kernel) rfl (fun E X Z hy => ?_)
  have X : CX y l E cX3_goesOne 3 RX3 (rmd 4) := X
  show WW y l E 3 _ 0 [(0, .ref (ad y 13)), (1, .int a0), (2, .int a1)] [] σ (T_X3_goesOne a0 a1 σ)
  unfold T_X3_goesOne
  refine r_aload_n (pc := 0) X dX3_goesOne_0 0 rfl rfl ?_
  refine r_geta (pc := 1) X dX3_goesOne_1 fl_X3_40 oc_13 (by decide) ?_
  refine r_iload_n (pc := 4) X dX3_goesOne_4 1 rfl rfl ?_
  refine r_iald (pc := 5) X dX3_goesOne_5 ar_13_10 (fun x1 => ?_)
  refine r_if_ne (pc := 6) (tgt := 27) X dX3_goesOne_6 (by decide) ?_ ?_
  · refine r_aload_n (pc := 27) X dX3_goesOne_27 0 rfl rfl ?_
    refine r_iload_n (pc := 28) X dX3_goesOne_28 1 rfl rfl ?_
    refine r_callvp (pc := 29) X dX3_goesOne_29 cf_X3_isLed ml_X3_208 (rf rfl rfl) hy oc_13.1 hc_3 (fun b hb => m_X3_isLed hb) rfl rfl (Nat.le_of_ble_eq_true rfl) (fun x2 => ?_)
    refine r_if_eq (pc := 32) (tgt := 55) X dX3_goesOne_32 (by decide) ?_ ?_
    · refine r_sub [0, 1] rfl ?_
      exact s_X3_goesOne_j55 X Z hy a0 σ
    · refine r_iload_n (pc := 35) X dX3_goesOne_35 2 rfl rfl ?_
      refine r_if_ne (pc := 36) (tgt := 55) X dX3_goesOne_36 (by decide) ?_ ?_
      · refine r_sub [0, 1] rfl ?_
        exact s_X3_goesOne_j55 X Z hy a0 σ
      · refine r_aload_n (pc := 39) X dX3_goesOne_39 0 rfl rfl ?_
        refine r_geta (pc := 40) X dX3_goesOne_40 fl_X3_58 oc_13 (by decide) ?_
        refine r_iload_n (pc := 43) X dX3_goesOne_43 1 rfl rfl ?_
        refine r_dup2 (pc := 44) X dX3_goesOne_44 rfl rfl ?_
        refine r_iald (pc := 45) X dX3_goesOne_45 ar_13_27 (fun x4 => ?_)
        refine r_iconst (pc := 46) X dX3_goesOne_46 kc_1 ?_
        refine r_iadd (pc := 47) X dX3_goesOne_47 ?_
        refine r_iast (pc := 48) X dX3_goesOne_48 ar_13_27 (fun σ5 => ?_)
        refine r_aload_n (pc := 49) X dX3_goesOne_49 0 rfl rfl ?_
        refine r_iload_n (pc := 50) X dX3_goesOne_50 1 rfl rfl ?_
        refine r_callvV (pc := 51) X dX3_goesOne_51 cf_X3_goesLed ml_X3_211 (rf rfl rfl) hy oc_13.1 hc_3 (fun b hb => m_X3_goesLed hb) rfl rfl (Nat.le_of_ble_eq_true rfl) (fun σ7 => ?_)
        exact r_vret (pc := 54) X Z dX3_goesOne_54 rfl
  · refine r_aload_n (pc := 9) X dX3_goesOne_9 0 rfl rfl ?_
    refine r_geta (pc := 10) X dX3_goesOne_10 fl_X3_40 oc_13 (by decide) ?_
    refine r_iload_n (pc := 13) X dX3_goesOne_13 1 rfl rfl ?_
    refine r_iconst (pc := 14) X dX3_goesOne_14 kc_3 ?_
    refine r_iast (pc := 15) X dX3_goesOne_15 ar_13_10 (fun σ8 => ?_)
    refine r_aload_n (pc := 16) X dX3_goesOne_16 0 rfl rfl ?_
    refine r_geta (pc := 17) X dX3_goesOne_17 fl_X3_61 oc_13 (by decide) ?_
    refine r_iload_n (pc := 20) X dX3_goesOne_20 1 rfl rfl ?_
    refine r_dup2 (pc := 21) X dX3_goesOne_21 rfl rfl ?_
    refine r_iald (pc := 22) X dX3_goesOne_22 ar_13_28 (fun x9 => ?_)
    refine r_iconst (pc := 23) X dX3_goesOne_23 kc_1 ?_
    refine r_iadd (pc := 24) X dX3_goesOne_24 ?_
    refine r_iast (pc := 25) X dX3_goesOne_25 ar_13_28 (fun σ10 => ?_)
    exact r_vret (pc := 26) X Z dX3_goesOne_26 rfl

set_option maxRecDepth 100000 in
theorem s_X3_goesHour_j39 {y : LY} {l : Launch} {E : ET} (X : CX y l E cX3_goesHour 3 RX3 (rmd 5)) (Z : ZX E none) (hy : y.1 ≤ (eS E).heap.size)   {K12 : Int32 → Int32 → ST → Option ST} (hK12 : ∀ (v1 : Int32) (v2 : Int32) (σ : ST), WW y l E 3 (fun a => QM y E (xV a)) 12 [(0, .ref (ad y 13)), (1, .int v1), (2, .int v2)] [] σ (K12 v1 v2 σ)) (v1 : Int32) (v2 : Int32) (s0 : Int32) (s1 : Int32) (σ : ST) : WW y l E 3 (fun a => QM y E (xV a)) 39 [(0, .ref (ad y 13)), (1, .int v1), (2, .int v2)] [.int s0, .int s1, .ref (ad y 13)] σ (T_X3_goesHour_j39 K12  v1 v2 s0 s1 σ) := by
  unfold T_X3_goesHour_j39
  refine r_callvV (pc := 39) X dX3_goesHour_39 cf_X3_goesOne ml_X3_214 (rf rfl rfl) hy oc_13.1 hc_3 (fun b hb => m_X3_goesOne hb) rfl rfl (Nat.le_of_ble_eq_true rfl) (fun σ2 => ?_)
  refine r_iinc (pc := 42) (lv' := [(0, .ref _), (1, .int _)]) X dX3_goesHour_42 2 rfl (congrArg (fun z => v2 + z) kc_1) (by decide) rfl (fun x3 => ?_)
  refine r_goto (pc := 45) (tgt := 12) X dX3_goesHour_45 (by decide) ?_
  refine r_sub [1, 2, 0] rfl ?_
  exact hK12 v1 x3 σ2

set_option maxRecDepth 100000 in
theorem s_X3_goesHour_j38 {y : LY} {l : Launch} {E : ET} (X : CX y l E cX3_goesHour 3 RX3 (rmd 5)) (Z : ZX E none) (hy : y.1 ≤ (eS E).heap.size)   {K12 : Int32 → Int32 → ST → Option ST} (hK12 : ∀ (v1 : Int32) (v2 : Int32) (σ : ST), WW y l E 3 (fun a => QM y E (xV a)) 12 [(0, .ref (ad y 13)), (1, .int v1), (2, .int v2)] [] σ (K12 v1 v2 σ)) (v1 : Int32) (v2 : Int32) (s0 : Int32) (σ : ST) : WW y l E 3 (fun a => QM y E (xV a)) 38 [(0, .ref (ad y 13)), (1, .int v1), (2, .int v2)] [.int s0, .ref (ad y 13)] σ (T_X3_goesHour_j38 K12  v1 v2 s0 σ) := by
  unfold T_X3_goesHour_j38
  refine r_iconst (pc := 38) X dX3_goesHour_38 kc_0 ?_
  exact s_X3_goesHour_j39 X Z hy hK12 v1 v2 0 s0 σ

set_option maxRecDepth 100000 in
theorem s_X3_goesHour_j105 {y : LY} {l : Launch} {E : ET} (X : CX y l E cX3_goesHour 3 RX3 (rmd 5)) (Z : ZX E none) (hy : y.1 ≤ (eS E).heap.size)   {K50 : Int32 → ST → Option ST} (hK50 : ∀ (v2 : Int32) (σ : ST), WW y l E 3 (fun a => QM y E (xV a)) 50 [(0, .ref (ad y 13)), (2, .int v2)] [] σ (K50 v2 σ)) (v2 : Int32) (s0 : Int32) (s1 : Int32) (s2 : Int32) (σ : ST) : WW y l E 3 (fun a => QM y E (xV a)) 105 [(0, .ref (ad y 13)), (2, .int v2)] [.int s0, .int s1, .int s2, .ref (aa y 13 5)] σ (T_X3_goesHour_j105 K50  v2 s0 s1 s2 σ) := by
  unfold T_X3_goesHour_j105
  refine r_iadd (pc := 105) X dX3_goesHour_105 ?_
  refine r_iast (pc := 106) X dX3_goesHour_106 ar_13_5 (fun σ1 => ?_)
  refine r_aload_n (pc := 107) X dX3_goesHour_107 0 rfl rfl ?_
  refine r_dup (pc := 108) X dX3_goesHour_108 rfl ?_
  refine r_geti (pc := 109) X dX3_goesHour_109 fl_X3_217 oc_13 rfl (fun x2 => ?_)
  refine r_aload_n (pc := 112) X dX3_goesHour_112 0 rfl rfl ?_
  refine r_geta (pc := 113) X dX3_goesHour_113 fl_X3_13 oc_13 (by decide) ?_
  refine r_aload_n (pc := 116) X dX3_goesHour_116 0 rfl rfl ?_
  refine r_geta (pc := 117) X dX3_goesHour_117 fl_X3_37 oc_13 (by decide) ?_
  refine r_iload_n (pc := 120) X dX3_goesHour_120 1 rfl rfl ?_
  refine r_iald (pc := 121) X dX3_goesHour_121 ar_13_9 (fun x3 => ?_)
  refine r_iald (pc := 122) X dX3_goesHour_122 ar_13_1 (fun x4 => ?_)
  refine r_iconst (pc := 123) X dX3_goesHour_123 kc_2 ?_
  refine r_icmp_ne (pc := 124) (tgt := 144) X dX3_goesHour_124 (by decide) ?_ ?_
  · refine r_iconst (pc := 144) X dX3_goesHour_144 kc_0 ?_
    refine r_iadd (pc := 145) X dX3_goesHour_145 ?_
    refine r_puti (pc := 146) X dX3_goesHour_146 fl_X3_217 fw_3_29 oc_13 rfl (fun σ5 => ?_)
    refine r_iinc (pc := 149) (lv' := [(0, .ref _)]) X dX3_goesHour_149 1 rfl (congrArg (fun z => v2 + z) kc_1) (by decide) rfl (fun x6 => ?_)
    refine r_goto (pc := 152) (tgt := 50) X dX3_goesHour_152 (by decide) ?_
    refine r_sub [1, 0] rfl ?_
    exact hK50 x6 σ5
  · refine r_aload_n (pc := 127) X dX3_goesHour_127 0 rfl rfl ?_
    refine r_geta (pc := 128) X dX3_goesHour_128 fl_X3_34 oc_13 (by decide) ?_
    refine r_iload_n (pc := 131) X dX3_goesHour_131 1 rfl rfl ?_
    refine r_iald (pc := 132) X dX3_goesHour_132 ar_13_8 (fun x7 => ?_)
    refine r_aload_n (pc := 133) X dX3_goesHour_133 0 rfl rfl ?_
    refine r_geti (pc := 134) X dX3_goesHour_134 fl_X3_151 oc_13 rfl (fun x8 => ?_)
    refine r_icmp_ne (pc := 137) (tgt := 144) X dX3_goesHour_137 (by decide) ?_ ?_
    · refine r_iconst (pc := 144) X dX3_goesHour_144 kc_0 ?_
      refine r_iadd (pc := 145) X dX3_goesHour_145 ?_
      refine r_puti (pc := 146) X dX3_goesHour_146 fl_X3_217 fw_3_29 oc_13 rfl (fun σ9 => ?_)
      refine r_iinc (pc := 149) (lv' := [(0, .ref _)]) X dX3_goesHour_149 1 rfl (congrArg (fun z => v2 + z) kc_1) (by decide) rfl (fun x10 => ?_)
      refine r_goto (pc := 152) (tgt := 50) X dX3_goesHour_152 (by decide) ?_
      refine r_sub [1, 0] rfl ?_
      exact hK50 x10 σ9
    · refine r_iconst (pc := 140) X dX3_goesHour_140 kc_1 ?_
      refine r_goto (pc := 141) (tgt := 145) X dX3_goesHour_141 (by decide) ?_
      refine r_iadd (pc := 145) X dX3_goesHour_145 ?_
      refine r_puti (pc := 146) X dX3_goesHour_146 fl_X3_217 fw_3_29 oc_13 rfl (fun σ11 => ?_)
      refine r_iinc (pc := 149) (lv' := [(0, .ref _)]) X dX3_goesHour_149 1 rfl (congrArg (fun z => v2 + z) kc_1) (by decide) rfl (fun x12 => ?_)
      refine r_goto (pc := 152) (tgt := 50) X dX3_goesHour_152 (by decide) ?_
      refine r_sub [1, 0] rfl ?_
      exact hK50 x12 σ11

set_option maxRecDepth 100000 in
theorem s_X3_goesHour_L50 {y : LY} {l : Launch} {E : ET} (X : CX y l E cX3_goesHour 3 RX3 (rmd 5)) (Z : ZX E none) (hy : y.1 ≤ (eS E).heap.size)     (n : Nat) : ∀ (v2 : Int32) (σ : ST), WW y l E 3 (fun a => QM y E (xV a)) 50 [(0, .ref (ad y 13)), (2, .int v2)] [] σ (T_X3_goesHour_L50  n v2 σ) := by
  induction n with
  | zero => intros; exact r_none rfl
  | succ n ih =>
    intro v2 σ
    unfold T_X3_goesHour_L50
    refine r_iload_n (pc := 50) X dX3_goesHour_50 1 rfl rfl ?_
    refine r_aload_n (pc := 51) X dX3_goesHour_51 0 rfl rfl ?_
    refine r_geti (pc := 52) X dX3_goesHour_52 fl_X3_88 oc_13 rfl (fun x1 => ?_)
    refine r_icmp_ge (pc := 55) (tgt := 155) X dX3_goesHour_55 (by decide) ?_ ?_
    · exact r_vret (pc := 155) X Z dX3_goesHour_155 rfl
    · refine r_aload_n (pc := 58) X dX3_goesHour_58 0 rfl rfl ?_
      refine r_geta (pc := 59) X dX3_goesHour_59 fl_X3_37 oc_13 (by decide) ?_
      refine r_iload_n (pc := 62) X dX3_goesHour_62 1 rfl rfl ?_
      refine r_iald (pc := 63) X dX3_goesHour_63 ar_13_9 (fun x2 => ?_)
      refine r_bipush (pc := 64) X dX3_goesHour_64 kb_9 ?_
      refine r_icmp_ne (pc := 66) (tgt := 72) X dX3_goesHour_66 (by decide) ?_ ?_
      · refine r_aload_n (pc := 72) X dX3_goesHour_72 0 rfl rfl ?_
        refine r_geta (pc := 73) X dX3_goesHour_73 fl_X3_25 oc_13 (by decide) ?_
        refine r_aload_n (pc := 76) X dX3_goesHour_76 0 rfl rfl ?_
        refine r_geta (pc := 77) X dX3_goesHour_77 fl_X3_37 oc_13 (by decide) ?_
        refine r_iload_n (pc := 80) X dX3_goesHour_80 1 rfl rfl ?_
        refine r_iald (pc := 81) X dX3_goesHour_81 ar_13_9 (fun x3 => ?_)
        refine r_dup2 (pc := 82) X dX3_goesHour_82 rfl rfl ?_
        refine r_iald (pc := 83) X dX3_goesHour_83 ar_13_5 (fun x4 => ?_)
        refine r_aload_n (pc := 84) X dX3_goesHour_84 0 rfl rfl ?_
        refine r_geta (pc := 85) X dX3_goesHour_85 fl_X3_25 oc_13 (by decide) ?_
        refine r_aload_n (pc := 88) X dX3_goesHour_88 0 rfl rfl ?_
        refine r_geta (pc := 89) X dX3_goesHour_89 fl_X3_37 oc_13 (by decide) ?_
        refine r_iload_n (pc := 92) X dX3_goesHour_92 1 rfl rfl ?_
        refine r_iald (pc := 93) X dX3_goesHour_93 ar_13_9 (fun x5 => ?_)
        refine r_iald (pc := 94) X dX3_goesHour_94 ar_13_5 (fun x6 => ?_)
        refine r_bipush (pc := 95) X dX3_goesHour_95 kb_99 ?_
        refine r_icmp_ge (pc := 97) (tgt := 104) X dX3_goesHour_97 (by decide) ?_ ?_
        · refine r_iconst (pc := 104) X dX3_goesHour_104 kc_0 ?_
          exact s_X3_goesHour_j105 X Z hy (fun v2 s => ih v2 s) v2 0 x4 x3 σ
        · refine r_iconst (pc := 100) X dX3_goesHour_100 kc_1 ?_
          refine r_goto (pc := 101) (tgt := 105) X dX3_goesHour_101 (by decide) ?_
          exact s_X3_goesHour_j105 X Z hy (fun v2 s => ih v2 s) v2 1 x4 x3 σ
      · refine r_goto (pc := 69) (tgt := 149) X dX3_goesHour_69 (by decide) ?_
        refine r_iinc (pc := 149) (lv' := [(0, .ref _)]) X dX3_goesHour_149 1 rfl (congrArg (fun z => v2 + z) kc_1) (by decide) rfl (fun x7 => ?_)
        refine r_goto (pc := 152) (tgt := 50) X dX3_goesHour_152 (by decide) ?_
        refine r_sub [1, 0] rfl ?_
        exact ih x7 σ

set_option maxRecDepth 100000 in
theorem s_X3_goesHour_L12 {y : LY} {l : Launch} {E : ET} (X : CX y l E cX3_goesHour 3 RX3 (rmd 5)) (Z : ZX E none) (hy : y.1 ≤ (eS E).heap.size)     (n : Nat) : ∀ (v1 : Int32) (v2 : Int32) (σ : ST), WW y l E 3 (fun a => QM y E (xV a)) 12 [(0, .ref (ad y 13)), (1, .int v1), (2, .int v2)] [] σ (T_X3_goesHour_L12  n v1 v2 σ) := by
  induction n with
  | zero => intros; exact r_none rfl
  | succ n ih =>
    intro v1 v2 σ
    unfold T_X3_goesHour_L12
    refine r_iload_n (pc := 12) X dX3_goesHour_12 2 rfl rfl ?_
    refine r_aload_n (pc := 13) X dX3_goesHour_13 0 rfl rfl ?_
    refine r_geti (pc := 14) X dX3_goesHour_14 fl_X3_88 oc_13 rfl (fun x1 => ?_)
    refine r_icmp_ge (pc := 17) (tgt := 48) X dX3_goesHour_17 (by decide) ?_ ?_
    · refine r_iconst (pc := 48) X dX3_goesHour_48 kc_0 ?_
      refine r_istore_n (pc := 49) (lv' := [(2, .int _), (0, .ref _), (1, .int _)]) X dX3_goesHour_49 rfl (by decide) rfl ?_
      refine r_sub [1, 0] rfl ?_
      exact s_X3_goesHour_L50 X Z hy FU 0 σ
    · refine r_aload_n (pc := 20) X dX3_goesHour_20 0 rfl rfl ?_
      refine r_iload_n (pc := 21) X dX3_goesHour_21 2 rfl rfl ?_
      refine r_iload_n (pc := 22) X dX3_goesHour_22 1 rfl rfl ?_
      refine r_if_eq (pc := 23) (tgt := 38) X dX3_goesHour_23 (by decide) ?_ ?_
      · exact s_X3_goesHour_j38 X Z hy (fun v1 v2 s => ih v1 v2 s) v1 v2 v2 σ
      · refine r_iload_n (pc := 26) X dX3_goesHour_26 2 rfl rfl ?_
        refine r_aload_n (pc := 27) X dX3_goesHour_27 0 rfl rfl ?_
        refine r_geti (pc := 28) X dX3_goesHour_28 fl_X3_64 oc_13 rfl (fun x2 => ?_)
        refine r_icmp_ne (pc := 31) (tgt := 38) X dX3_goesHour_31 (by decide) ?_ ?_
        · exact s_X3_goesHour_j38 X Z hy (fun v1 v2 s => ih v1 v2 s) v1 v2 v2 σ
        · refine r_iconst (pc := 34) X dX3_goesHour_34 kc_1 ?_
          refine r_goto (pc := 35) (tgt := 39) X dX3_goesHour_35 (by decide) ?_
          exact s_X3_goesHour_j39 X Z hy (fun v1 v2 s => ih v1 v2 s) v1 v2 1 v2 σ

set_option maxRecDepth 100000 in
theorem m_X3_goesHour {y : LY} {l : Launch}  {a0 : Int32} {σ : ST} {a : ST} (h : T_X3_goesHour a0 σ = some a) : MU y l yX3_goesHour cX3_goesHour 3 none (rmd 5) [.ref (ad y 13), .int a0] σ (xV a) := by
  refine MU.of (φ := xV) h (by decide +kernel) rfl (fun E X Z hy => ?_)
  have X : CX y l E cX3_goesHour 3 RX3 (rmd 5) := X
  show WW y l E 3 _ 0 [(0, .ref (ad y 13)), (1, .int a0)] [] σ (T_X3_goesHour a0 σ)
  unfold T_X3_goesHour
  refine r_aload_n (pc := 0) X dX3_goesHour_0 0 rfl rfl ?_
  refine r_dup (pc := 1) X dX3_goesHour_1 rfl ?_
  refine r_geti (pc := 2) X dX3_goesHour_2 fl_X3_127 oc_13 rfl (fun x1 => ?_)
  refine r_iconst (pc := 5) X dX3_goesHour_5 kc_1 ?_
  refine r_iadd (pc := 6) X dX3_goesHour_6 ?_
  refine r_puti (pc := 7) X dX3_goesHour_7 fl_X3_127 fw_3_13 oc_13 rfl (fun σ2 => ?_)
  refine r_iconst (pc := 10) X dX3_goesHour_10 kc_0 ?_
  refine r_istore_n (pc := 11) (lv' := [(2, .int _), (0, .ref _), (1, .int _)]) X dX3_goesHour_11 rfl (by decide) rfl ?_
  refine r_sub [1, 2, 0] rfl ?_
  exact s_X3_goesHour_L12 X Z hy FU a0 0 σ2

set_option maxRecDepth 100000 in
theorem s_X3_comesHours_L26 {y : LY} {l : Launch} {E : ET} (X : CX y l E cX3_comesHours 3 RX3 (rmd 6)) (Z : ZX E (some .boolean)) (hy : y.1 ≤ (eS E).heap.size)     (n : Nat) : ∀ (v1 : Int32) (v2 : Int32) (σ : ST), WW y l E 3 (fun a => QM y E (xI a)) 26 [(0, .ref (ad y 13)), (1, .int v1), (2, .int v2)] [] σ (T_X3_comesHours_L26  n v1 v2 σ) := by
  induction n with
  | zero => intros; exact r_none rfl
  | succ n ih =>
    intro v1 v2 σ
    unfold T_X3_comesHours_L26
    refine r_iload_n (pc := 26) X dX3_comesHours_26 2 rfl rfl ?_
    refine r_iload_n (pc := 27) X dX3_comesHours_27 1 rfl rfl ?_
    refine r_icmp_ge (pc := 28) (tgt := 42) X dX3_comesHours_28 (by decide) ?_ ?_
    · refine r_iconst (pc := 42) X dX3_comesHours_42 kc_1 ?_
      exact r_zret (pc := 43) X Z dX3_comesHours_43 rfl (Or.inr rfl)
    · refine r_aload_n (pc := 31) X dX3_comesHours_31 0 rfl rfl ?_
      refine r_iconst (pc := 32) X dX3_comesHours_32 kc_0 ?_
      refine r_callvV (pc := 33) X dX3_comesHours_33 cf_X3_goesHour ml_X3_130 (rf rfl rfl) hy oc_13.1 hc_3 (fun b hb => m_X3_goesHour hb) rfl rfl (Nat.le_of_ble_eq_true rfl) (fun σ2 => ?_)
      refine r_iinc (pc := 36) (lv' := [(0, .ref _), (1, .int _)]) X dX3_comesHours_36 2 rfl (congrArg (fun z => v2 + z) kc_1) (by decide) rfl (fun x3 => ?_)
      refine r_goto (pc := 39) (tgt := 26) X dX3_comesHours_39 (by decide) ?_
      refine r_sub [1, 2, 0] rfl ?_
      exact ih v1 x3 σ2

set_option maxRecDepth 100000 in
theorem m_X3_comesHours {y : LY} {l : Launch}  {a0 : Int32} {σ : ST} {a : (Int32 × ST)} (h : T_X3_comesHours a0 σ = some a) : MU y l yX3_comesHours cX3_comesHours 3 (some .boolean) (rmd 6) [.ref (ad y 13), .int a0] σ (xI a) := by
  refine MU.of (φ := xI) h (by decide +kernel) rfl (fun E X Z hy => ?_)
  have X : CX y l E cX3_comesHours 3 RX3 (rmd 6) := X
  show WW y l E 3 _ 0 [(0, .ref (ad y 13)), (1, .int a0)] [] σ (T_X3_comesHours a0 σ)
  unfold T_X3_comesHours
  refine r_iload_n (pc := 0) X dX3_comesHours_0 1 rfl rfl ?_
  refine r_iconst (pc := 1) X dX3_comesHours_1 kc_1 ?_
  refine r_bipush (pc := 2) X dX3_comesHours_2 kb_60 ?_
  refine r_callsp (pc := 4) X dX3_comesHours_4 cf_X3_isIn ml_X3_113 (rf rfl rfl) hy (fun b hb => m_X3_isIn hb) rfl rfl (Nat.le_of_ble_eq_true rfl) (fun x1 => ?_)
  refine r_if_eq (pc := 7) (tgt := 22) X dX3_comesHours_7 (by decide) ?_ ?_
  · refine r_iconst (pc := 22) X dX3_comesHours_22 kc_0 ?_
    exact r_zret (pc := 23) X Z dX3_comesHours_23 rfl (Or.inl rfl)
  · refine r_aload_n (pc := 10) X dX3_comesHours_10 0 rfl rfl ?_
    refine r_geti (pc := 11) X dX3_comesHours_11 fl_X3_127 oc_13 rfl (fun x3 => ?_)
    refine r_iload_n (pc := 14) X dX3_comesHours_14 1 rfl rfl ?_
    refine r_iadd (pc := 15) X dX3_comesHours_15 ?_
    refine r_sipush (pc := 16) X dX3_comesHours_16 ks_999 ?_
    refine r_icmp_le (pc := 19) (tgt := 24) X dX3_comesHours_19 (by decide) ?_ ?_
    · refine r_iconst (pc := 24) X dX3_comesHours_24 kc_0 ?_
      refine r_istore_n (pc := 25) (lv' := [(2, .int _), (0, .ref _), (1, .int _)]) X dX3_comesHours_25 rfl (by decide) rfl ?_
      refine r_sub [1, 2, 0] rfl ?_
      exact s_X3_comesHours_L26 X Z hy FU a0 0 σ
    · refine r_iconst (pc := 22) X dX3_comesHours_22 kc_0 ?_
      exact r_zret (pc := 23) X Z dX3_comesHours_23 rfl (Or.inl rfl)

set_option maxRecDepth 100000 in
theorem m_X3_addsBag {y : LY} {l : Launch}  {a0 : Int32} {a1 : Int32} {a2 : Int32} {σ : ST} {a : ST} (h : T_X3_addsBag a0 a1 a2 σ = some a) : MU y l yX3_addsBag cX3_addsBag 4 none (rmd 0) [.ref (ad y 13), .int a0, .int a1, .int a2] σ (xV a) := by
  refine MU.of (φ := xV) h (by decide +kernel) rfl (fun E X Z hy => ?_)
  have X : CX y l E cX3_addsBag 4 RX3 (rmd 0) := X
  show WW y l E 4 _ 0 [(0, .ref (ad y 13)), (1, .int a0), (2, .int a1), (3, .int a2)] [] σ (T_X3_addsBag a0 a1 a2 σ)
  unfold T_X3_addsBag
  refine r_aload_n (pc := 0) X dX3_addsBag_0 0 rfl rfl ?_
  refine r_geta (pc := 1) X dX3_addsBag_1 fl_X3_13 oc_13 (by decide) ?_
  refine r_aload_n (pc := 4) X dX3_addsBag_4 0 rfl rfl ?_
  refine r_geti (pc := 5) X dX3_addsBag_5 fl_X3_83 oc_13 rfl (fun x1 => ?_)
  refine r_iload_n (pc := 8) X dX3_addsBag_8 1 rfl rfl ?_
  refine r_iast (pc := 9) X dX3_addsBag_9 ar_13_1 (fun σ2 => ?_)
  refine r_aload_n (pc := 10) X dX3_addsBag_10 0 rfl rfl ?_
  refine r_geta (pc := 11) X dX3_addsBag_11 fl_X3_16 oc_13 (by decide) ?_
  refine r_aload_n (pc := 14) X dX3_addsBag_14 0 rfl rfl ?_
  refine r_geti (pc := 15) X dX3_addsBag_15 fl_X3_83 oc_13 rfl (fun x3 => ?_)
  refine r_iload_n (pc := 18) X dX3_addsBag_18 2 rfl rfl ?_
  refine r_iast (pc := 19) X dX3_addsBag_19 ar_13_2 (fun σ4 => ?_)
  refine r_aload_n (pc := 20) X dX3_addsBag_20 0 rfl rfl ?_
  refine r_geta (pc := 21) X dX3_addsBag_21 fl_X3_19 oc_13 (by decide) ?_
  refine r_aload_n (pc := 24) X dX3_addsBag_24 0 rfl rfl ?_
  refine r_geti (pc := 25) X dX3_addsBag_25 fl_X3_83 oc_13 rfl (fun x5 => ?_)
  refine r_iload_n (pc := 28) X dX3_addsBag_28 3 rfl rfl ?_
  refine r_iast (pc := 29) X dX3_addsBag_29 ar_13_3 (fun σ6 => ?_)
  refine r_aload_n (pc := 30) X dX3_addsBag_30 0 rfl rfl ?_
  refine r_geta (pc := 31) X dX3_addsBag_31 fl_X3_22 oc_13 (by decide) ?_
  refine r_aload_n (pc := 34) X dX3_addsBag_34 0 rfl rfl ?_
  refine r_geti (pc := 35) X dX3_addsBag_35 fl_X3_83 oc_13 rfl (fun x7 => ?_)
  refine r_bipush (pc := 38) X dX3_addsBag_38 kb_9 ?_
  refine r_iast (pc := 40) X dX3_addsBag_40 ar_13_4 (fun σ8 => ?_)
  refine r_aload_n (pc := 41) X dX3_addsBag_41 0 rfl rfl ?_
  refine r_geta (pc := 42) X dX3_addsBag_42 fl_X3_25 oc_13 (by decide) ?_
  refine r_aload_n (pc := 45) X dX3_addsBag_45 0 rfl rfl ?_
  refine r_geti (pc := 46) X dX3_addsBag_46 fl_X3_83 oc_13 rfl (fun x9 => ?_)
  refine r_iconst (pc := 49) X dX3_addsBag_49 kc_0 ?_
  refine r_iast (pc := 50) X dX3_addsBag_50 ar_13_5 (fun σ10 => ?_)
  refine r_aload_n (pc := 51) X dX3_addsBag_51 0 rfl rfl ?_
  refine r_dup (pc := 52) X dX3_addsBag_52 rfl ?_
  refine r_geti (pc := 53) X dX3_addsBag_53 fl_X3_83 oc_13 rfl (fun x11 => ?_)
  refine r_iconst (pc := 56) X dX3_addsBag_56 kc_1 ?_
  refine r_iadd (pc := 57) X dX3_addsBag_57 ?_
  refine r_puti (pc := 58) X dX3_addsBag_58 fl_X3_83 fw_3_11 oc_13 rfl (fun σ12 => ?_)
  exact r_vret (pc := 61) X Z dX3_addsBag_61 rfl

set_option maxRecDepth 100000 in
theorem m_X3_addsBearer {y : LY} {l : Launch}  {a0 : Int32} {a1 : Int32} {a2 : Int32} {σ : ST} {a : ST} (h : T_X3_addsBearer a0 a1 a2 σ = some a) : MU y l yX3_addsBearer cX3_addsBearer 4 none (rmd 0) [.ref (ad y 13), .int a0, .int a1, .int a2] σ (xV a) := by
  refine MU.of (φ := xV) h (by decide +kernel) rfl (fun E X Z hy => ?_)
  have X : CX y l E cX3_addsBearer 4 RX3 (rmd 0) := X
  show WW y l E 4 _ 0 [(0, .ref (ad y 13)), (1, .int a0), (2, .int a1), (3, .int a2)] [] σ (T_X3_addsBearer a0 a1 a2 σ)
  unfold T_X3_addsBearer
  refine r_aload_n (pc := 0) X dX3_addsBearer_0 0 rfl rfl ?_
  refine r_geta (pc := 1) X dX3_addsBearer_1 fl_X3_28 oc_13 (by decide) ?_
  refine r_aload_n (pc := 4) X dX3_addsBearer_4 0 rfl rfl ?_
  refine r_geti (pc := 5) X dX3_addsBearer_5 fl_X3_88 oc_13 rfl (fun x1 => ?_)
  refine r_iload_n (pc := 8) X dX3_addsBearer_8 1 rfl rfl ?_
  refine r_iast (pc := 9) X dX3_addsBearer_9 ar_13_6 (fun σ2 => ?_)
  refine r_aload_n (pc := 10) X dX3_addsBearer_10 0 rfl rfl ?_
  refine r_geta (pc := 11) X dX3_addsBearer_11 fl_X3_31 oc_13 (by decide) ?_
  refine r_aload_n (pc := 14) X dX3_addsBearer_14 0 rfl rfl ?_
  refine r_geti (pc := 15) X dX3_addsBearer_15 fl_X3_88 oc_13 rfl (fun x3 => ?_)
  refine r_iload_n (pc := 18) X dX3_addsBearer_18 2 rfl rfl ?_
  refine r_iast (pc := 19) X dX3_addsBearer_19 ar_13_7 (fun σ4 => ?_)
  refine r_aload_n (pc := 20) X dX3_addsBearer_20 0 rfl rfl ?_
  refine r_geta (pc := 21) X dX3_addsBearer_21 fl_X3_34 oc_13 (by decide) ?_
  refine r_aload_n (pc := 24) X dX3_addsBearer_24 0 rfl rfl ?_
  refine r_geti (pc := 25) X dX3_addsBearer_25 fl_X3_88 oc_13 rfl (fun x5 => ?_)
  refine r_iload_n (pc := 28) X dX3_addsBearer_28 3 rfl rfl ?_
  refine r_iast (pc := 29) X dX3_addsBearer_29 ar_13_8 (fun σ6 => ?_)
  refine r_aload_n (pc := 30) X dX3_addsBearer_30 0 rfl rfl ?_
  refine r_geta (pc := 31) X dX3_addsBearer_31 fl_X3_37 oc_13 (by decide) ?_
  refine r_aload_n (pc := 34) X dX3_addsBearer_34 0 rfl rfl ?_
  refine r_geti (pc := 35) X dX3_addsBearer_35 fl_X3_88 oc_13 rfl (fun x7 => ?_)
  refine r_bipush (pc := 38) X dX3_addsBearer_38 kb_9 ?_
  refine r_iast (pc := 40) X dX3_addsBearer_40 ar_13_9 (fun σ8 => ?_)
  refine r_aload_n (pc := 41) X dX3_addsBearer_41 0 rfl rfl ?_
  refine r_geta (pc := 42) X dX3_addsBearer_42 fl_X3_40 oc_13 (by decide) ?_
  refine r_aload_n (pc := 45) X dX3_addsBearer_45 0 rfl rfl ?_
  refine r_geti (pc := 46) X dX3_addsBearer_46 fl_X3_88 oc_13 rfl (fun x9 => ?_)
  refine r_bipush (pc := 49) X dX3_addsBearer_49 kb_9 ?_
  refine r_iast (pc := 51) X dX3_addsBearer_51 ar_13_10 (fun σ10 => ?_)
  refine r_aload_n (pc := 52) X dX3_addsBearer_52 0 rfl rfl ?_
  refine r_dup (pc := 53) X dX3_addsBearer_53 rfl ?_
  refine r_geti (pc := 54) X dX3_addsBearer_54 fl_X3_88 oc_13 rfl (fun x11 => ?_)
  refine r_iconst (pc := 57) X dX3_addsBearer_57 kc_1 ?_
  refine r_iadd (pc := 58) X dX3_addsBearer_58 ?_
  refine r_puti (pc := 59) X dX3_addsBearer_59 fl_X3_88 fw_3_12 oc_13 rfl (fun σ12 => ?_)
  exact r_vret (pc := 62) X Z dX3_addsBearer_62 rfl

set_option maxRecDepth 100000 in
theorem s_X3_givesHer_j20 {y : LY} {l : Launch} {E : ET} (X : CX y l E cX3_givesHer 4 RX3 (rmd 1)) (Z : ZX E none) (hy : y.1 ≤ (eS E).heap.size)     (v1 : Int32) (v2 : Int32) (σ : ST) : WW y l E 4 (fun a => QM y E (xV a)) 20 [(0, .ref (ad y 13)), (1, .int v1), (2, .int v2)] [] σ (T_X3_givesHer_j20   v1 v2 σ) := by
  unfold T_X3_givesHer_j20
  refine r_aload_n (pc := 20) X dX3_givesHer_20 0 rfl rfl ?_
  refine r_geta (pc := 21) X dX3_givesHer_21 fl_X3_37 oc_13 (by decide) ?_
  refine r_iload_n (pc := 24) X dX3_givesHer_24 2 rfl rfl ?_
  refine r_iload_n (pc := 25) X dX3_givesHer_25 1 rfl rfl ?_
  refine r_iast (pc := 26) X dX3_givesHer_26 ar_13_9 (fun σ1 => ?_)
  refine r_aload_n (pc := 27) X dX3_givesHer_27 0 rfl rfl ?_
  refine r_geta (pc := 28) X dX3_givesHer_28 fl_X3_25 oc_13 (by decide) ?_
  refine r_iload_n (pc := 31) X dX3_givesHer_31 1 rfl rfl ?_
  refine r_iconst (pc := 32) X dX3_givesHer_32 kc_0 ?_
  refine r_iast (pc := 33) X dX3_givesHer_33 ar_13_5 (fun σ2 => ?_)
  exact r_vret (pc := 34) X Z dX3_givesHer_34 rfl

set_option maxRecDepth 100000 in
theorem m_X3_givesHer {y : LY} {l : Launch}  {a0 : Int32} {a1 : Int32} {σ : ST} {a : ST} (h : T_X3_givesHer a0 a1 σ = some a) : MU y l yX3_givesHer cX3_givesHer 4 none (rmd 1) [.ref (ad y 13), .int a0, .int a1] σ (xV a) := by
  refine MU.of (φ := xV) h (by decide +kernel) rfl (fun E X Z hy => ?_)
  have X : CX y l E cX3_givesHer 4 RX3 (rmd 1) := X
  show WW y l E 4 _ 0 [(0, .ref (ad y 13)), (1, .int a0), (2, .int a1)] [] σ (T_X3_givesHer a0 a1 σ)
  unfold T_X3_givesHer
  refine r_aload_n (pc := 0) X dX3_givesHer_0 0 rfl rfl ?_
  refine r_iload_n (pc := 1) X dX3_givesHer_1 1 rfl rfl ?_
  refine r_callvp (pc := 2) X dX3_givesHer_2 cf_X3_whoHas ml_X3_188 (rf rfl rfl) hy oc_13.1 hc_3 (fun b hb => m_X3_whoHas hb) rfl rfl (Nat.le_of_ble_eq_true rfl) (fun x1 => ?_)
  refine r_istore_n (pc := 5) (lv' := [(3, .int _), (0, .ref _), (1, .int _), (2, .int _)]) X dX3_givesHer_5 rfl (by decide) rfl ?_
  refine r_iload_n (pc := 6) X dX3_givesHer_6 0 rfl rfl ?_
  refine r_bipush (pc := 7) X dX3_givesHer_7 kb_9 ?_
  refine r_icmp_ge (pc := 9) (tgt := 20) X dX3_givesHer_9 (by decide) ?_ ?_
  · refine r_sub [1, 2, 3] rfl ?_
    exact s_X3_givesHer_j20 X Z hy a0 a1 σ
  · refine r_aload_n (pc := 12) X dX3_givesHer_12 1 rfl rfl ?_
    refine r_geta (pc := 13) X dX3_givesHer_13 fl_X3_37 oc_13 (by decide) ?_
    refine r_iload_n (pc := 16) X dX3_givesHer_16 0 rfl rfl ?_
    refine r_bipush (pc := 17) X dX3_givesHer_17 kb_9 ?_
    refine r_iast (pc := 19) X dX3_givesHer_19 ar_13_9 (fun σ3 => ?_)
    refine r_sub [1, 2, 3] rfl ?_
    exact s_X3_givesHer_j20 X Z hy a0 a1 σ3

set_option maxRecDepth 100000 in
theorem s_X3_unfriends_j24 {y : LY} {l : Launch} {E : ET} (X : CX y l E cX3_unfriends 2 RX3 (rmd 0)) (Z : ZX E none) (hy : y.1 ≤ (eS E).heap.size)     (v1 : Int32) (σ : ST) : WW y l E 2 (fun a => QM y E (xV a)) 24 [(0, .ref (ad y 13)), (1, .int v1)] [] σ (T_X3_unfriends_j24   v1 σ) := by
  unfold T_X3_unfriends_j24
  refine r_aload_n (pc := 24) X dX3_unfriends_24 0 rfl rfl ?_
  refine r_geta (pc := 25) X dX3_unfriends_25 fl_X3_22 oc_13 (by decide) ?_
  refine r_iload_n (pc := 28) X dX3_unfriends_28 1 rfl rfl ?_
  refine r_bipush (pc := 29) X dX3_unfriends_29 kb_9 ?_
  refine r_iast (pc := 31) X dX3_unfriends_31 ar_13_4 (fun σ1 => ?_)
  exact r_vret (pc := 32) X Z dX3_unfriends_32 rfl

set_option maxRecDepth 100000 in
theorem m_X3_unfriends {y : LY} {l : Launch}  {a0 : Int32} {σ : ST} {a : ST} (h : T_X3_unfriends a0 σ = some a) : MU y l yX3_unfriends cX3_unfriends 2 none (rmd 0) [.ref (ad y 13), .int a0] σ (xV a) := by
  refine MU.of (φ := xV) h (by decide +kernel) rfl (fun E X Z hy => ?_)
  have X : CX y l E cX3_unfriends 2 RX3 (rmd 0) := X
  show WW y l E 2 _ 0 [(0, .ref (ad y 13)), (1, .int a0)] [] σ (T_X3_unfriends a0 σ)
  unfold T_X3_unfriends
  refine r_aload_n (pc := 0) X dX3_unfriends_0 0 rfl rfl ?_
  refine r_geta (pc := 1) X dX3_unfriends_1 fl_X3_22 oc_13 (by decide) ?_
  refine r_iload_n (pc := 4) X dX3_unfriends_4 1 rfl rfl ?_
  refine r_iald (pc := 5) X dX3_unfriends_5 ar_13_4 (fun x1 => ?_)
  refine r_bipush (pc := 6) X dX3_unfriends_6 kb_9 ?_
  refine r_icmp_ge (pc := 8) (tgt := 24) X dX3_unfriends_8 (by decide) ?_ ?_
  · exact s_X3_unfriends_j24 X Z hy a0 σ
  · refine r_aload_n (pc := 11) X dX3_unfriends_11 0 rfl rfl ?_
    refine r_geta (pc := 12) X dX3_unfriends_12 fl_X3_22 oc_13 (by decide) ?_
    refine r_aload_n (pc := 15) X dX3_unfriends_15 0 rfl rfl ?_
    refine r_geta (pc := 16) X dX3_unfriends_16 fl_X3_22 oc_13 (by decide) ?_
    refine r_iload_n (pc := 19) X dX3_unfriends_19 1 rfl rfl ?_
    refine r_iald (pc := 20) X dX3_unfriends_20 ar_13_4 (fun x2 => ?_)
    refine r_bipush (pc := 21) X dX3_unfriends_21 kb_9 ?_
    refine r_iast (pc := 23) X dX3_unfriends_23 ar_13_4 (fun σ3 => ?_)
    exact s_X3_unfriends_j24 X Z hy a0 σ3

set_option maxRecDepth 100000 in
theorem m_X3_befriends {y : LY} {l : Launch}  {a0 : Int32} {a1 : Int32} {σ : ST} {a : ST} (h : T_X3_befriends a0 a1 σ = some a) : MU y l yX3_befriends cX3_befriends 3 none (rmd 1) [.ref (ad y 13), .int a0, .int a1] σ (xV a) := by
  refine MU.of (φ := xV) h (by decide +kernel) rfl (fun E X Z hy => ?_)
  have X : CX y l E cX3_befriends 3 RX3 (rmd 1) := X
  show WW y l E 3 _ 0 [(0, .ref (ad y 13)), (1, .int a0), (2, .int a1)] [] σ (T_X3_befriends a0 a1 σ)
  unfold T_X3_befriends
  refine r_aload_n (pc := 0) X dX3_befriends_0 0 rfl rfl ?_
  refine r_iload_n (pc := 1) X dX3_befriends_1 1 rfl rfl ?_
  refine r_callvV (pc := 2) X dX3_befriends_2 cf_X3_unfriends ml_X3_191 (rf rfl rfl) hy oc_13.1 hc_3 (fun b hb => m_X3_unfriends hb) rfl rfl (Nat.le_of_ble_eq_true rfl) (fun σ2 => ?_)
  refine r_aload_n (pc := 5) X dX3_befriends_5 0 rfl rfl ?_
  refine r_iload_n (pc := 6) X dX3_befriends_6 2 rfl rfl ?_
  refine r_callvV (pc := 7) X dX3_befriends_7 cf_X3_unfriends ml_X3_191 (rf rfl rfl) hy oc_13.1 hc_3 (fun b hb => m_X3_unfriends hb) rfl rfl (Nat.le_of_ble_eq_true rfl) (fun σ4 => ?_)
  refine r_iload_n (pc := 10) X dX3_befriends_10 1 rfl rfl ?_
  refine r_iload_n (pc := 11) X dX3_befriends_11 2 rfl rfl ?_
  refine r_icmp_ne (pc := 12) (tgt := 16) X dX3_befriends_12 (by decide) ?_ ?_
  · refine r_aload_n (pc := 16) X dX3_befriends_16 0 rfl rfl ?_
    refine r_geta (pc := 17) X dX3_befriends_17 fl_X3_22 oc_13 (by decide) ?_
    refine r_iload_n (pc := 20) X dX3_befriends_20 1 rfl rfl ?_
    refine r_iload_n (pc := 21) X dX3_befriends_21 2 rfl rfl ?_
    refine r_iast (pc := 22) X dX3_befriends_22 ar_13_4 (fun σ5 => ?_)
    refine r_aload_n (pc := 23) X dX3_befriends_23 0 rfl rfl ?_
    refine r_geta (pc := 24) X dX3_befriends_24 fl_X3_22 oc_13 (by decide) ?_
    refine r_iload_n (pc := 27) X dX3_befriends_27 2 rfl rfl ?_
    refine r_iload_n (pc := 28) X dX3_befriends_28 1 rfl rfl ?_
    refine r_iast (pc := 29) X dX3_befriends_29 ar_13_4 (fun σ6 => ?_)
    exact r_vret (pc := 30) X Z dX3_befriends_30 rfl
  · exact r_vret (pc := 15) X Z dX3_befriends_15 rfl

set_option maxRecDepth 100000 in
theorem s_X3_comes_j205 {y : LY} {l : Launch} {E : ET} (X : CX y l E cX3_comes 4 RX3 (rmd 7)) (Z : ZX E (some .boolean)) (hy : y.1 ≤ (eS E).heap.size)     (v2 : Int32) (σ : ST) : WW y l E 4 (fun a => QM y E (xI a)) 205 [(0, .ref (ad y 13)), (2, .int v2)] [] σ (T_X3_comes_j205   v2 σ) := by
  unfold T_X3_comes_j205
  refine r_aload_n (pc := 205) X dX3_comes_205 0 rfl rfl ?_
  refine r_iload_n (pc := 206) X dX3_comes_206 1 rfl rfl ?_
  refine r_callvI (pc := 207) X dX3_comes_207 cf_X3_comesHours ml_X3_154 (rf rfl rfl) hy oc_13.1 hc_3 (fun b hb => m_X3_comesHours hb) rfl rfl (Nat.le_of_ble_eq_true rfl) (fun x1 σ2 => ?_)
  exact r_zretz (pc := 210) X Z dX3_comes_210 rfl

set_option maxRecDepth 100000 in
theorem m_X3_comes {y : LY} {l : Launch}  {a0 : Int32} {σ : ST} {a : (Int32 × ST)} (h : T_X3_comes a0 σ = some a) : MU y l yX3_comes cX3_comes 4 (some .boolean) (rmd 7) [.ref (ad y 13), .int a0] σ (xI a) := by
  refine MU.of (φ := xI) h (by decide +kernel) rfl (fun E X Z hy => ?_)
  have X : CX y l E cX3_comes 4 RX3 (rmd 7) := X
  show WW y l E 4 _ 0 [(0, .ref (ad y 13)), (1, .int a0)] [] σ (T_X3_comes a0 σ)
  unfold T_X3_comes
  refine r_aload_n (pc := 0) X dX3_comes_0 0 rfl rfl ?_
  refine r_geta (pc := 1) X dX3_comes_1 fl_X3_52 oc_13 (by decide) ?_
  refine r_iconst (pc := 4) X dX3_comes_4 kc_3 ?_
  refine r_iload_n (pc := 5) X dX3_comes_5 1 rfl rfl ?_
  refine r_imul (pc := 6) X dX3_comes_6 ?_
  refine r_iald (pc := 7) X dX3_comes_7 ar_13_18 (fun x1 => ?_)
  refine r_istore_n (pc := 8) (lv' := [(2, .int _), (0, .ref _), (1, .int _)]) X dX3_comes_8 rfl (by decide) rfl ?_
  refine r_aload_n (pc := 9) X dX3_comes_9 1 rfl rfl ?_
  refine r_geta (pc := 10) X dX3_comes_10 fl_X3_52 oc_13 (by decide) ?_
  refine r_iconst (pc := 13) X dX3_comes_13 kc_3 ?_
  refine r_iload_n (pc := 14) X dX3_comes_14 2 rfl rfl ?_
  refine r_imul (pc := 15) X dX3_comes_15 ?_
  refine r_iconst (pc := 16) X dX3_comes_16 kc_1 ?_
  refine r_iadd (pc := 17) X dX3_comes_17 ?_
  refine r_iald (pc := 18) X dX3_comes_18 ar_13_18 (fun x2 => ?_)
  refine r_istore_n (pc := 19) (lv' := [(3, .int _), (2, .int _), (0, .ref _), (1, .int _)]) X dX3_comes_19 rfl (by decide) rfl ?_
  refine r_aload_n (pc := 20) X dX3_comes_20 2 rfl rfl ?_
  refine r_geta (pc := 21) X dX3_comes_21 fl_X3_46 oc_13 (by decide) ?_
  refine r_iload_n (pc := 24) X dX3_comes_24 3 rfl rfl ?_
  refine r_iald (pc := 25) X dX3_comes_25 ar_13_16 (fun x3 => ?_)
  refine r_ite (fun h0 => ?_) (fun h0 => ?_)
  · refine r_tabIn (pc := 26) (tgt := 84) (off := 58) X dX3_comes_26 h0 (by decide) (by decide) (by decide) (by decide) ?_
    refine r_iload_n (pc := 84) X dX3_comes_84 1 rfl rfl ?_
    refine r_iconst (pc := 85) X dX3_comes_85 kc_5 ?_
    refine r_icmp_gt (pc := 86) (tgt := 98) X dX3_comes_86 (by decide) ?_ ?_
    · refine r_iconst (pc := 98) X dX3_comes_98 kc_0 ?_
      exact r_zret (pc := 99) X Z dX3_comes_99 rfl (Or.inl rfl)
    · refine r_aload_n (pc := 89) X dX3_comes_89 2 rfl rfl ?_
      refine r_geti (pc := 90) X dX3_comes_90 fl_X3_83 oc_13 rfl (fun x21 => ?_)
      refine r_bipush (pc := 93) X dX3_comes_93 kb_6 ?_
      refine r_icmp_ne (pc := 95) (tgt := 100) X dX3_comes_95 (by decide) ?_ ?_
      · refine r_aload_n (pc := 100) X dX3_comes_100 2 rfl rfl ?_
        refine r_iload_n (pc := 101) X dX3_comes_101 1 rfl rfl ?_
        refine r_iload_n (pc := 102) X dX3_comes_102 0 rfl rfl ?_
        refine r_aload_n (pc := 103) X dX3_comes_103 2 rfl rfl ?_
        refine r_geta (pc := 104) X dX3_comes_104 fl_X3_52 oc_13 (by decide) ?_
        refine r_iconst (pc := 107) X dX3_comes_107 kc_3 ?_
        refine r_iload_n (pc := 108) X dX3_comes_108 3 rfl rfl ?_
        refine r_imul (pc := 109) X dX3_comes_109 ?_
        refine r_iconst (pc := 110) X dX3_comes_110 kc_2 ?_
        refine r_iadd (pc := 111) X dX3_comes_111 ?_
        refine r_iald (pc := 112) X dX3_comes_112 ar_13_18 (fun x22 => ?_)
        refine r_callvV (pc := 113) X dX3_comes_113 cf_X3_addsBag ml_X3_134 (rf rfl rfl) hy oc_13.1 hc_3 (fun b hb => m_X3_addsBag hb) rfl rfl (Nat.le_of_ble_eq_true rfl) (fun σ24 => ?_)
        refine r_iconst (pc := 116) X dX3_comes_116 kc_1 ?_
        exact r_zret (pc := 117) X Z dX3_comes_117 rfl (Or.inr rfl)
      · refine r_iconst (pc := 98) X dX3_comes_98 kc_0 ?_
        exact r_zret (pc := 99) X Z dX3_comes_99 rfl (Or.inl rfl)
  · refine r_ite (fun h1 => ?_) (fun h1 => ?_)
    · refine r_tabIn (pc := 26) (tgt := 198) (off := 172) X dX3_comes_26 h1 (by decide) (by decide) (by decide) (by decide) ?_
      refine r_aload_n (pc := 198) X dX3_comes_198 2 rfl rfl ?_
      refine r_iload_n (pc := 199) X dX3_comes_199 1 rfl rfl ?_
      refine r_puti (pc := 200) X dX3_comes_200 fl_X3_151 fw_3_14 oc_13 rfl (fun σ20 => ?_)
      refine r_iconst (pc := 203) X dX3_comes_203 kc_1 ?_
      exact r_zret (pc := 204) X Z dX3_comes_204 rfl (Or.inr rfl)
    · refine r_ite (fun h2 => ?_) (fun h2 => ?_)
      · refine r_tabIn (pc := 26) (tgt := 205) (off := 179) X dX3_comes_26 h2 (by decide) (by decide) (by decide) (by decide) ?_
        refine r_sub [2, 1] rfl ?_
        exact s_X3_comes_j205 X Z hy x1 σ
      · refine r_ite (fun h3 => ?_) (fun h3 => ?_)
        · refine r_tabIn (pc := 26) (tgt := 205) (off := 179) X dX3_comes_26 h3 (by decide) (by decide) (by decide) (by decide) ?_
          refine r_sub [2, 1] rfl ?_
          exact s_X3_comes_j205 X Z hy x1 σ
        · refine r_ite (fun h4 => ?_) (fun h4 => ?_)
          · refine r_tabIn (pc := 26) (tgt := 172) (off := 146) X dX3_comes_26 h4 (by decide) (by decide) (by decide) (by decide) ?_
            refine r_aload_n (pc := 172) X dX3_comes_172 2 rfl rfl ?_
            refine r_iload_n (pc := 173) X dX3_comes_173 1 rfl rfl ?_
            refine r_callvp (pc := 174) X dX3_comes_174 cf_X3_isBag ml_X3_141 (rf rfl rfl) hy oc_13.1 hc_3 (fun b hb => m_X3_isBag hb) rfl rfl (Nat.le_of_ble_eq_true rfl) (fun x14 => ?_)
            refine r_if_eq (pc := 177) (tgt := 188) X dX3_comes_177 (by decide) ?_ ?_
            · refine r_iconst (pc := 188) X dX3_comes_188 kc_0 ?_
              exact r_zret (pc := 189) X Z dX3_comes_189 rfl (Or.inl rfl)
            · refine r_aload_n (pc := 180) X dX3_comes_180 2 rfl rfl ?_
              refine r_iload_n (pc := 181) X dX3_comes_181 0 rfl rfl ?_
              refine r_callvp (pc := 182) X dX3_comes_182 cf_X3_isBag ml_X3_141 (rf rfl rfl) hy oc_13.1 hc_3 (fun b hb => m_X3_isBag hb) rfl rfl (Nat.le_of_ble_eq_true rfl) (fun x16 => ?_)
              refine r_if_ne (pc := 185) (tgt := 190) X dX3_comes_185 (by decide) ?_ ?_
              · refine r_aload_n (pc := 190) X dX3_comes_190 2 rfl rfl ?_
                refine r_iload_n (pc := 191) X dX3_comes_191 1 rfl rfl ?_
                refine r_iload_n (pc := 192) X dX3_comes_192 0 rfl rfl ?_
                refine r_callvV (pc := 193) X dX3_comes_193 cf_X3_befriends ml_X3_148 (rf rfl rfl) hy oc_13.1 hc_3 (fun b hb => m_X3_befriends hb) rfl rfl (Nat.le_of_ble_eq_true rfl) (fun σ19 => ?_)
                refine r_iconst (pc := 196) X dX3_comes_196 kc_1 ?_
                exact r_zret (pc := 197) X Z dX3_comes_197 rfl (Or.inr rfl)
              · refine r_iconst (pc := 188) X dX3_comes_188 kc_0 ?_
                exact r_zret (pc := 189) X Z dX3_comes_189 rfl (Or.inl rfl)
          · refine r_ite (fun h5 => ?_) (fun h5 => ?_)
            · refine r_tabIn (pc := 26) (tgt := 146) (off := 120) X dX3_comes_26 h5 (by decide) (by decide) (by decide) (by decide) ?_
              refine r_aload_n (pc := 146) X dX3_comes_146 2 rfl rfl ?_
              refine r_iload_n (pc := 147) X dX3_comes_147 1 rfl rfl ?_
              refine r_callvp (pc := 148) X dX3_comes_148 cf_X3_isBag ml_X3_141 (rf rfl rfl) hy oc_13.1 hc_3 (fun b hb => m_X3_isBag hb) rfl rfl (Nat.le_of_ble_eq_true rfl) (fun x8 => ?_)
              refine r_if_eq (pc := 151) (tgt := 162) X dX3_comes_151 (by decide) ?_ ?_
              · refine r_iconst (pc := 162) X dX3_comes_162 kc_0 ?_
                exact r_zret (pc := 163) X Z dX3_comes_163 rfl (Or.inl rfl)
              · refine r_aload_n (pc := 154) X dX3_comes_154 2 rfl rfl ?_
                refine r_iload_n (pc := 155) X dX3_comes_155 0 rfl rfl ?_
                refine r_callvp (pc := 156) X dX3_comes_156 cf_X3_isBearer ml_X3_91 (rf rfl rfl) hy oc_13.1 hc_3 (fun b hb => m_X3_isBearer hb) rfl rfl (Nat.le_of_ble_eq_true rfl) (fun x10 => ?_)
                refine r_if_ne (pc := 159) (tgt := 164) X dX3_comes_159 (by decide) ?_ ?_
                · refine r_aload_n (pc := 164) X dX3_comes_164 2 rfl rfl ?_
                  refine r_iload_n (pc := 165) X dX3_comes_165 1 rfl rfl ?_
                  refine r_iload_n (pc := 166) X dX3_comes_166 0 rfl rfl ?_
                  refine r_callvV (pc := 167) X dX3_comes_167 cf_X3_givesHer ml_X3_144 (rf rfl rfl) hy oc_13.1 hc_3 (fun b hb => m_X3_givesHer hb) rfl rfl (Nat.le_of_ble_eq_true rfl) (fun σ13 => ?_)
                  refine r_iconst (pc := 170) X dX3_comes_170 kc_1 ?_
                  exact r_zret (pc := 171) X Z dX3_comes_171 rfl (Or.inr rfl)
                · refine r_iconst (pc := 162) X dX3_comes_162 kc_0 ?_
                  exact r_zret (pc := 163) X Z dX3_comes_163 rfl (Or.inl rfl)
            · refine r_ite (fun h6 => ?_) (fun h6 => ?_)
              · refine r_tabIn (pc := 26) (tgt := 205) (off := 179) X dX3_comes_26 h6 (by decide) (by decide) (by decide) (by decide) ?_
                refine r_sub [2, 1] rfl ?_
                exact s_X3_comes_j205 X Z hy x1 σ
              · refine r_ite (fun h7 => ?_) (fun h7 => ?_)
                · refine r_tabIn (pc := 26) (tgt := 205) (off := 179) X dX3_comes_26 h7 (by decide) (by decide) (by decide) (by decide) ?_
                  refine r_sub [2, 1] rfl ?_
                  exact s_X3_comes_j205 X Z hy x1 σ
                · refine r_ite (fun h8 => ?_) (fun h8 => ?_)
                  · refine r_tabIn (pc := 26) (tgt := 205) (off := 179) X dX3_comes_26 h8 (by decide) (by decide) (by decide) (by decide) ?_
                    refine r_sub [2, 1] rfl ?_
                    exact s_X3_comes_j205 X Z hy x1 σ
                  · refine r_ite (fun h9 => ?_) (fun h9 => ?_)
                    · refine r_tabIn (pc := 26) (tgt := 205) (off := 179) X dX3_comes_26 h9 (by decide) (by decide) (by decide) (by decide) ?_
                      refine r_sub [2, 1] rfl ?_
                      exact s_X3_comes_j205 X Z hy x1 σ
                    · refine r_ite (fun h10 => ?_) (fun h10 => ?_)
                      · refine r_tabIn (pc := 26) (tgt := 118) (off := 92) X dX3_comes_26 h10 (by decide) (by decide) (by decide) (by decide) ?_
                        refine r_aload_n (pc := 118) X dX3_comes_118 2 rfl rfl ?_
                        refine r_geti (pc := 119) X dX3_comes_119 fl_X3_88 oc_13 rfl (fun x4 => ?_)
                        refine r_iconst (pc := 122) X dX3_comes_122 kc_5 ?_
                        refine r_icmp_ne (pc := 123) (tgt := 128) X dX3_comes_123 (by decide) ?_ ?_
                        · refine r_aload_n (pc := 128) X dX3_comes_128 2 rfl rfl ?_
                          refine r_iload_n (pc := 129) X dX3_comes_129 1 rfl rfl ?_
                          refine r_iload_n (pc := 130) X dX3_comes_130 0 rfl rfl ?_
                          refine r_aload_n (pc := 131) X dX3_comes_131 2 rfl rfl ?_
                          refine r_geta (pc := 132) X dX3_comes_132 fl_X3_52 oc_13 (by decide) ?_
                          refine r_iconst (pc := 135) X dX3_comes_135 kc_3 ?_
                          refine r_iload_n (pc := 136) X dX3_comes_136 3 rfl rfl ?_
                          refine r_imul (pc := 137) X dX3_comes_137 ?_
                          refine r_iconst (pc := 138) X dX3_comes_138 kc_2 ?_
                          refine r_iadd (pc := 139) X dX3_comes_139 ?_
                          refine r_iald (pc := 140) X dX3_comes_140 ar_13_18 (fun x5 => ?_)
                          refine r_callvV (pc := 141) X dX3_comes_141 cf_X3_addsBearer ml_X3_138 (rf rfl rfl) hy oc_13.1 hc_3 (fun b hb => m_X3_addsBearer hb) rfl rfl (Nat.le_of_ble_eq_true rfl) (fun σ7 => ?_)
                          refine r_iconst (pc := 144) X dX3_comes_144 kc_1 ?_
                          exact r_zret (pc := 145) X Z dX3_comes_145 rfl (Or.inr rfl)
                        · refine r_iconst (pc := 126) X dX3_comes_126 kc_0 ?_
                          exact r_zret (pc := 127) X Z dX3_comes_127 rfl (Or.inl rfl)
                      · refine r_tabOut (pc := 26) (tgt := 205) X dX3_comes_26 (tab_out [(98 : Int32), (99 : Int32), (100 : Int32), (101 : Int32), (102 : Int32), (103 : Int32), (104 : Int32), (105 : Int32), (106 : Int32), (107 : Int32), (108 : Int32)] (List.forall_mem_cons.mpr ⟨h0, List.forall_mem_cons.mpr ⟨h1, List.forall_mem_cons.mpr ⟨h2, List.forall_mem_cons.mpr ⟨h3, List.forall_mem_cons.mpr ⟨h4, List.forall_mem_cons.mpr ⟨h5, List.forall_mem_cons.mpr ⟨h6, List.forall_mem_cons.mpr ⟨h7, List.forall_mem_cons.mpr ⟨h8, List.forall_mem_cons.mpr ⟨h9, List.forall_mem_cons.mpr ⟨h10, List.forall_mem_nil _⟩⟩⟩⟩⟩⟩⟩⟩⟩⟩⟩) (by decide)) (by decide) ?_
                        refine r_sub [2, 1] rfl ?_
                        exact s_X3_comes_j205 X Z hy x1 σ

set_option maxRecDepth 100000 in
theorem s_X3_passes_j42 {y : LY} {l : Launch} {E : ET} (X : CX y l E cX3_passes 3 RX3 (rmd 0)) (Z : ZX E none) (hy : y.1 ≤ (eS E).heap.size) {f0 n0 : Nat} (hA0 : AR 13 f0 n0)  {K2 : Int32 → ST → Option ST} (hK2 : ∀ (v2 : Int32) (σ : ST), WW y l E 3 (fun a => QM y E (xV a)) 2 [(0, .ref (ad y 13)), (1, .ref (aa y 13 f0)), (2, .int v2)] [] σ (K2 v2 σ)) (v2 : Int32) (σ : ST) : WW y l E 3 (fun a => QM y E (xV a)) 42 [(0, .ref (ad y 13)), (1, .ref (aa y 13 f0)), (2, .int v2)] [] σ (T_X3_passes_j42 f0 n0 K2  v2 σ) := by
  unfold T_X3_passes_j42
  refine r_aload_n (pc := 42) X dX3_passes_42 0 rfl rfl ?_
  refine r_dup (pc := 43) X dX3_passes_43 rfl ?_
  refine r_geti (pc := 44) X dX3_passes_44 fl_X3_175 oc_13 rfl (fun x1 => ?_)
  refine r_iconst (pc := 47) X dX3_passes_47 kc_1 ?_
  refine r_iadd (pc := 48) X dX3_passes_48 ?_
  refine r_puti (pc := 49) X dX3_passes_49 fl_X3_175 fw_3_25 oc_13 rfl (fun σ2 => ?_)
  refine r_iinc (pc := 52) (lv' := [(0, .ref _), (1, .ref _)]) X dX3_passes_52 2 rfl (congrArg (fun z => v2 + z) kc_1) (by decide) rfl (fun x3 => ?_)
  refine r_goto (pc := 55) (tgt := 2) X dX3_passes_55 (by decide) ?_
  refine r_sub [1, 2, 0] rfl ?_
  exact hK2 x3 σ2

set_option maxRecDepth 100000 in
theorem s_X3_passes_L2 {y : LY} {l : Launch} {E : ET} (X : CX y l E cX3_passes 3 RX3 (rmd 0)) (Z : ZX E none) (hy : y.1 ≤ (eS E).heap.size) {f0 n0 : Nat} (hA0 : AR 13 f0 n0)    (n : Nat) : ∀ (v2 : Int32) (σ : ST), WW y l E 3 (fun a => QM y E (xV a)) 2 [(0, .ref (ad y 13)), (1, .ref (aa y 13 f0)), (2, .int v2)] [] σ (T_X3_passes_L2 f0 n0 n v2 σ) := by
  induction n with
  | zero => intros; exact r_none rfl
  | succ n ih =>
    intro v2 σ
    unfold T_X3_passes_L2
    refine r_iload_n (pc := 2) X dX3_passes_2 2 rfl rfl ?_
    refine r_aload_n (pc := 3) X dX3_passes_3 1 rfl rfl ?_
    refine r_alen (pc := 4) X dX3_passes_4 hA0 rfl ?_
    refine r_icmp_ge (pc := 5) (tgt := 58) X dX3_passes_5 (by decide) ?_ ?_
    · exact r_vret (pc := 58) X Z dX3_passes_58 rfl
    · refine r_aload_n (pc := 8) X dX3_passes_8 0 rfl rfl ?_
      refine r_geti (pc := 9) X dX3_passes_9 fl_X3_171 oc_13 rfl (fun x1 => ?_)
      refine r_if_eq (pc := 12) (tgt := 30) X dX3_passes_12 (by decide) ?_ ?_
      · refine r_aload_n (pc := 30) X dX3_passes_30 1 rfl rfl ?_
        refine r_iload_n (pc := 31) X dX3_passes_31 2 rfl rfl ?_
        refine r_aload_n (pc := 32) X dX3_passes_32 0 rfl rfl ?_
        refine r_geta (pc := 33) X dX3_passes_33 fl_X3_55 oc_13 (by decide) ?_
        refine r_aload_n (pc := 36) X dX3_passes_36 0 rfl rfl ?_
        refine r_geti (pc := 37) X dX3_passes_37 fl_X3_175 oc_13 rfl (fun x2 => ?_)
        refine r_iald (pc := 40) X dX3_passes_40 ar_13_22 (fun x3 => ?_)
        refine r_iast (pc := 41) X dX3_passes_41 hA0 (fun σ4 => ?_)
        exact s_X3_passes_j42 X Z hy hA0 (fun v2 s => ih v2 s) v2 σ4
      · refine r_aload_n (pc := 15) X dX3_passes_15 0 rfl rfl ?_
        refine r_geta (pc := 16) X dX3_passes_16 fl_X3_55 oc_13 (by decide) ?_
        refine r_aload_n (pc := 19) X dX3_passes_19 0 rfl rfl ?_
        refine r_geti (pc := 20) X dX3_passes_20 fl_X3_175 oc_13 rfl (fun x5 => ?_)
        refine r_aload_n (pc := 23) X dX3_passes_23 1 rfl rfl ?_
        refine r_iload_n (pc := 24) X dX3_passes_24 2 rfl rfl ?_
        refine r_iald (pc := 25) X dX3_passes_25 hA0 (fun x6 => ?_)
        refine r_iast (pc := 26) X dX3_passes_26 ar_13_22 (fun σ7 => ?_)
        refine r_goto (pc := 27) (tgt := 42) X dX3_passes_27 (by decide) ?_
        exact s_X3_passes_j42 X Z hy hA0 (fun v2 s => ih v2 s) v2 σ7

set_option maxRecDepth 100000 in
theorem m_X3_passes {y : LY} {l : Launch} {f0 n0 : Nat} (hA0 : AR 13 f0 n0)  {σ : ST} {a : ST} (h : T_X3_passes f0 n0 σ = some a) : MU y l yX3_passes cX3_passes 3 none (rmd 0) [.ref (ad y 13), .ref (aa y 13 f0)] σ (xV a) := by
  refine MU.of (φ := xV) h (by decide +kernel) rfl (fun E X Z hy => ?_)
  have X : CX y l E cX3_passes 3 RX3 (rmd 0) := X
  show WW y l E 3 _ 0 [(0, .ref (ad y 13)), (1, .ref (aa y 13 f0))] [] σ (T_X3_passes f0 n0 σ)
  unfold T_X3_passes
  refine r_iconst (pc := 0) X dX3_passes_0 kc_0 ?_
  refine r_istore_n (pc := 1) (lv' := [(2, .int _), (0, .ref _), (1, .ref _)]) X dX3_passes_1 rfl (by decide) rfl ?_
  refine r_sub [1, 2, 0] rfl ?_
  exact s_X3_passes_L2 X Z hy hA0 FU 0 σ

set_option maxRecDepth 100000 in
theorem s_X3_passOne_j38 {y : LY} {l : Launch} {E : ET} (X : CX y l E cX3_passOne 3 RX3 (rmd 0)) (Z : ZX E (some .int)) (hy : y.1 ≤ (eS E).heap.size)     (v2 : Int32) (σ : ST) : WW y l E 3 (fun a => QM y E (xI a)) 38 [(0, .ref (ad y 13)), (2, .int v2)] [] σ (T_X3_passOne_j38   v2 σ) := by
  unfold T_X3_passOne_j38
  refine r_aload_n (pc := 38) X dX3_passOne_38 0 rfl rfl ?_
  refine r_dup (pc := 39) X dX3_passOne_39 rfl ?_
  refine r_geti (pc := 40) X dX3_passOne_40 fl_X3_175 oc_13 rfl (fun x1 => ?_)
  refine r_iconst (pc := 43) X dX3_passOne_43 kc_1 ?_
  refine r_iadd (pc := 44) X dX3_passOne_44 ?_
  refine r_puti (pc := 45) X dX3_passOne_45 fl_X3_175 fw_3_25 oc_13 rfl (fun σ2 => ?_)
  refine r_iload_n (pc := 48) X dX3_passOne_48 1 rfl rfl ?_
  exact r_iret (pc := 49) X Z dX3_passOne_49 rfl

set_option maxRecDepth 100000 in
theorem s_X3_passOne_j20 {y : LY} {l : Launch} {E : ET} (X : CX y l E cX3_passOne 3 RX3 (rmd 0)) (Z : ZX E (some .int)) (hy : y.1 ≤ (eS E).heap.size)     (v1 : Int32) (s0 : Int32) (σ : ST) : WW y l E 3 (fun a => QM y E (xI a)) 20 [(0, .ref (ad y 13)), (1, .int v1)] [.int s0] σ (T_X3_passOne_j20   v1 s0 σ) := by
  unfold T_X3_passOne_j20
  refine r_istore_n (pc := 20) (lv' := [(2, .int _), (0, .ref _), (1, .int _)]) X dX3_passOne_20 rfl (by decide) rfl ?_
  refine r_aload_n (pc := 21) X dX3_passOne_21 1 rfl rfl ?_
  refine r_geti (pc := 22) X dX3_passOne_22 fl_X3_171 oc_13 rfl (fun x1 => ?_)
  refine r_if_eq (pc := 25) (tgt := 38) X dX3_passOne_25 (by decide) ?_ ?_
  · refine r_sub [1, 0] rfl ?_
    exact s_X3_passOne_j38 X Z hy s0 σ
  · refine r_aload_n (pc := 28) X dX3_passOne_28 1 rfl rfl ?_
    refine r_geta (pc := 29) X dX3_passOne_29 fl_X3_55 oc_13 (by decide) ?_
    refine r_aload_n (pc := 32) X dX3_passOne_32 1 rfl rfl ?_
    refine r_geti (pc := 33) X dX3_passOne_33 fl_X3_175 oc_13 rfl (fun x2 => ?_)
    refine r_iload_n (pc := 36) X dX3_passOne_36 2 rfl rfl ?_
    refine r_iast (pc := 37) X dX3_passOne_37 ar_13_22 (fun σ3 => ?_)
    refine r_sub [1, 0] rfl ?_
    exact s_X3_passOne_j38 X Z hy s0 σ3

set_option maxRecDepth 100000 in
theorem m_X3_passOne {y : LY} {l : Launch}  {a0 : Int32} {σ : ST} {a : (Int32 × ST)} (h : T_X3_passOne a0 σ = some a) : MU y l yX3_passOne cX3_passOne 3 (some .int) (rmd 0) [.ref (ad y 13), .int a0] σ (xI a) := by
  refine MU.of (φ := xI) h (by decide +kernel) rfl (fun E X Z hy => ?_)
  have X : CX y l E cX3_passOne 3 RX3 (rmd 0) := X
  show WW y l E 3 _ 0 [(0, .ref (ad y 13)), (1, .int a0)] [] σ (T_X3_passOne a0 σ)
  unfold T_X3_passOne
  refine r_aload_n (pc := 0) X dX3_passOne_0 0 rfl rfl ?_
  refine r_geti (pc := 1) X dX3_passOne_1 fl_X3_171 oc_13 rfl (fun x1 => ?_)
  refine r_if_eq (pc := 4) (tgt := 11) X dX3_passOne_4 (by decide) ?_ ?_
  · refine r_aload_n (pc := 11) X dX3_passOne_11 0 rfl rfl ?_
    refine r_geta (pc := 12) X dX3_passOne_12 fl_X3_55 oc_13 (by decide) ?_
    refine r_aload_n (pc := 15) X dX3_passOne_15 0 rfl rfl ?_
    refine r_geti (pc := 16) X dX3_passOne_16 fl_X3_175 oc_13 rfl (fun x2 => ?_)
    refine r_iald (pc := 19) X dX3_passOne_19 ar_13_22 (fun x3 => ?_)
    exact s_X3_passOne_j20 X Z hy a0 x3 σ
  · refine r_iload_n (pc := 7) X dX3_passOne_7 1 rfl rfl ?_
    refine r_goto (pc := 8) (tgt := 20) X dX3_passOne_8 (by decide) ?_
    exact s_X3_passOne_j20 X Z hy a0 a0 σ

set_option maxRecDepth 100000 in
theorem m_X3_passesAll {y : LY} {l : Launch}  {a0 : Int32} {a1 : Int32} {σ : ST} {a : ST} (h : T_X3_passesAll a0 a1 σ = some a) : MU y l yX3_passesAll cX3_passesAll 3 none (rmd 1) [.ref (ad y 13), .int a0, .int a1] σ (xV a) := by
  refine MU.of (φ := xV) h (by decide +kernel) rfl (fun E X Z hy => ?_)
  have X : CX y l E cX3_passesAll 3 RX3 (rmd 1) := X
  show WW y l E 3 _ 0 [(0, .ref (ad y 13)), (1, .int a0), (2, .int a1)] [] σ (T_X3_passesAll a0 a1 σ)
  unfold T_X3_passesAll
  refine r_aload_n (pc := 0) X dX3_passesAll_0 0 rfl rfl ?_
  refine r_bipush (pc := 1) X dX3_passesAll_1 kb_60 ?_
  refine r_iload_n (pc := 3) X dX3_passesAll_3 1 rfl rfl ?_
  refine r_imul (pc := 4) X dX3_passesAll_4 ?_
  refine r_puti (pc := 5) X dX3_passesAll_5 fl_X3_175 fw_3_25 oc_13 rfl (fun σ1 => ?_)
  refine r_aload_n (pc := 8) X dX3_passesAll_8 0 rfl rfl ?_
  refine r_iload_n (pc := 9) X dX3_passesAll_9 2 rfl rfl ?_
  refine r_putz (pc := 10) X dX3_passesAll_10 fl_X3_171 fw_3_24 oc_13 rfl (fun σ2 => ?_)
  refine r_aload_n (pc := 13) X dX3_passesAll_13 0 rfl rfl ?_
  refine r_aload_n (pc := 14) X dX3_passesAll_14 0 rfl rfl ?_
  refine r_geta (pc := 15) X dX3_passesAll_15 fl_X3_13 oc_13 (by decide) ?_
  refine r_callvV (pc := 18) X dX3_passesAll_18 cf_X3_passes ml_X3_178 (rf rfl rfl) hy oc_13.1 hc_3 (fun b hb => m_X3_passes ar_13_1 hb) rfl rfl (Nat.le_of_ble_eq_true rfl) (fun σ4 => ?_)
  refine r_aload_n (pc := 21) X dX3_passesAll_21 0 rfl rfl ?_
  refine r_aload_n (pc := 22) X dX3_passesAll_22 0 rfl rfl ?_
  refine r_geta (pc := 23) X dX3_passesAll_23 fl_X3_16 oc_13 (by decide) ?_
  refine r_callvV (pc := 26) X dX3_passesAll_26 cf_X3_passes ml_X3_178 (rf rfl rfl) hy oc_13.1 hc_3 (fun b hb => m_X3_passes ar_13_2 hb) rfl rfl (Nat.le_of_ble_eq_true rfl) (fun σ6 => ?_)
  refine r_aload_n (pc := 29) X dX3_passesAll_29 0 rfl rfl ?_
  refine r_aload_n (pc := 30) X dX3_passesAll_30 0 rfl rfl ?_
  refine r_geta (pc := 31) X dX3_passesAll_31 fl_X3_19 oc_13 (by decide) ?_
  refine r_callvV (pc := 34) X dX3_passesAll_34 cf_X3_passes ml_X3_178 (rf rfl rfl) hy oc_13.1 hc_3 (fun b hb => m_X3_passes ar_13_3 hb) rfl rfl (Nat.le_of_ble_eq_true rfl) (fun σ8 => ?_)
  refine r_aload_n (pc := 37) X dX3_passesAll_37 0 rfl rfl ?_
  refine r_aload_n (pc := 38) X dX3_passesAll_38 0 rfl rfl ?_
  refine r_geta (pc := 39) X dX3_passesAll_39 fl_X3_22 oc_13 (by decide) ?_
  refine r_callvV (pc := 42) X dX3_passesAll_42 cf_X3_passes ml_X3_178 (rf rfl rfl) hy oc_13.1 hc_3 (fun b hb => m_X3_passes ar_13_4 hb) rfl rfl (Nat.le_of_ble_eq_true rfl) (fun σ10 => ?_)
  refine r_aload_n (pc := 45) X dX3_passesAll_45 0 rfl rfl ?_
  refine r_aload_n (pc := 46) X dX3_passesAll_46 0 rfl rfl ?_
  refine r_geta (pc := 47) X dX3_passesAll_47 fl_X3_25 oc_13 (by decide) ?_
  refine r_callvV (pc := 50) X dX3_passesAll_50 cf_X3_passes ml_X3_178 (rf rfl rfl) hy oc_13.1 hc_3 (fun b hb => m_X3_passes ar_13_5 hb) rfl rfl (Nat.le_of_ble_eq_true rfl) (fun σ12 => ?_)
  refine r_aload_n (pc := 53) X dX3_passesAll_53 0 rfl rfl ?_
  refine r_aload_n (pc := 54) X dX3_passesAll_54 0 rfl rfl ?_
  refine r_geta (pc := 55) X dX3_passesAll_55 fl_X3_28 oc_13 (by decide) ?_
  refine r_callvV (pc := 58) X dX3_passesAll_58 cf_X3_passes ml_X3_178 (rf rfl rfl) hy oc_13.1 hc_3 (fun b hb => m_X3_passes ar_13_6 hb) rfl rfl (Nat.le_of_ble_eq_true rfl) (fun σ14 => ?_)
  refine r_aload_n (pc := 61) X dX3_passesAll_61 0 rfl rfl ?_
  refine r_aload_n (pc := 62) X dX3_passesAll_62 0 rfl rfl ?_
  refine r_geta (pc := 63) X dX3_passesAll_63 fl_X3_31 oc_13 (by decide) ?_
  refine r_callvV (pc := 66) X dX3_passesAll_66 cf_X3_passes ml_X3_178 (rf rfl rfl) hy oc_13.1 hc_3 (fun b hb => m_X3_passes ar_13_7 hb) rfl rfl (Nat.le_of_ble_eq_true rfl) (fun σ16 => ?_)
  refine r_aload_n (pc := 69) X dX3_passesAll_69 0 rfl rfl ?_
  refine r_aload_n (pc := 70) X dX3_passesAll_70 0 rfl rfl ?_
  refine r_geta (pc := 71) X dX3_passesAll_71 fl_X3_34 oc_13 (by decide) ?_
  refine r_callvV (pc := 74) X dX3_passesAll_74 cf_X3_passes ml_X3_178 (rf rfl rfl) hy oc_13.1 hc_3 (fun b hb => m_X3_passes ar_13_8 hb) rfl rfl (Nat.le_of_ble_eq_true rfl) (fun σ18 => ?_)
  refine r_aload_n (pc := 77) X dX3_passesAll_77 0 rfl rfl ?_
  refine r_aload_n (pc := 78) X dX3_passesAll_78 0 rfl rfl ?_
  refine r_geta (pc := 79) X dX3_passesAll_79 fl_X3_37 oc_13 (by decide) ?_
  refine r_callvV (pc := 82) X dX3_passesAll_82 cf_X3_passes ml_X3_178 (rf rfl rfl) hy oc_13.1 hc_3 (fun b hb => m_X3_passes ar_13_9 hb) rfl rfl (Nat.le_of_ble_eq_true rfl) (fun σ20 => ?_)
  refine r_aload_n (pc := 85) X dX3_passesAll_85 0 rfl rfl ?_
  refine r_aload_n (pc := 86) X dX3_passesAll_86 0 rfl rfl ?_
  refine r_geta (pc := 87) X dX3_passesAll_87 fl_X3_40 oc_13 (by decide) ?_
  refine r_callvV (pc := 90) X dX3_passesAll_90 cf_X3_passes ml_X3_178 (rf rfl rfl) hy oc_13.1 hc_3 (fun b hb => m_X3_passes ar_13_10 hb) rfl rfl (Nat.le_of_ble_eq_true rfl) (fun σ22 => ?_)
  refine r_aload_n (pc := 93) X dX3_passesAll_93 0 rfl rfl ?_
  refine r_aload_n (pc := 94) X dX3_passesAll_94 0 rfl rfl ?_
  refine r_aload_n (pc := 95) X dX3_passesAll_95 0 rfl rfl ?_
  refine r_geti (pc := 96) X dX3_passesAll_96 fl_X3_83 oc_13 rfl (fun x23 => ?_)
  refine r_callvI (pc := 99) X dX3_passesAll_99 cf_X3_passOne ml_X3_182 (rf rfl rfl) hy oc_13.1 hc_3 (fun b hb => m_X3_passOne hb) rfl rfl (Nat.le_of_ble_eq_true rfl) (fun x24 σ25 => ?_)
  refine r_puti (pc := 102) X dX3_passesAll_102 fl_X3_83 fw_3_11 oc_13 rfl (fun σ26 => ?_)
  refine r_aload_n (pc := 105) X dX3_passesAll_105 0 rfl rfl ?_
  refine r_aload_n (pc := 106) X dX3_passesAll_106 0 rfl rfl ?_
  refine r_aload_n (pc := 107) X dX3_passesAll_107 0 rfl rfl ?_
  refine r_geti (pc := 108) X dX3_passesAll_108 fl_X3_88 oc_13 rfl (fun x27 => ?_)
  refine r_callvI (pc := 111) X dX3_passesAll_111 cf_X3_passOne ml_X3_182 (rf rfl rfl) hy oc_13.1 hc_3 (fun b hb => m_X3_passOne hb) rfl rfl (Nat.le_of_ble_eq_true rfl) (fun x28 σ29 => ?_)
  refine r_puti (pc := 114) X dX3_passesAll_114 fl_X3_88 fw_3_12 oc_13 rfl (fun σ30 => ?_)
  refine r_aload_n (pc := 117) X dX3_passesAll_117 0 rfl rfl ?_
  refine r_aload_n (pc := 118) X dX3_passesAll_118 0 rfl rfl ?_
  refine r_aload_n (pc := 119) X dX3_passesAll_119 0 rfl rfl ?_
  refine r_geti (pc := 120) X dX3_passesAll_120 fl_X3_127 oc_13 rfl (fun x31 => ?_)
  refine r_callvI (pc := 123) X dX3_passesAll_123 cf_X3_passOne ml_X3_182 (rf rfl rfl) hy oc_13.1 hc_3 (fun b hb => m_X3_passOne hb) rfl rfl (Nat.le_of_ble_eq_true rfl) (fun x32 σ33 => ?_)
  refine r_puti (pc := 126) X dX3_passesAll_126 fl_X3_127 fw_3_13 oc_13 rfl (fun σ34 => ?_)
  refine r_aload_n (pc := 129) X dX3_passesAll_129 0 rfl rfl ?_
  refine r_aload_n (pc := 130) X dX3_passesAll_130 0 rfl rfl ?_
  refine r_aload_n (pc := 131) X dX3_passesAll_131 0 rfl rfl ?_
  refine r_geti (pc := 132) X dX3_passesAll_132 fl_X3_151 oc_13 rfl (fun x35 => ?_)
  refine r_callvI (pc := 135) X dX3_passesAll_135 cf_X3_passOne ml_X3_182 (rf rfl rfl) hy oc_13.1 hc_3 (fun b hb => m_X3_passOne hb) rfl rfl (Nat.le_of_ble_eq_true rfl) (fun x36 σ37 => ?_)
  refine r_puti (pc := 138) X dX3_passesAll_138 fl_X3_151 fw_3_14 oc_13 rfl (fun σ38 => ?_)
  exact r_vret (pc := 141) X Z dX3_passesAll_141 rfl

set_option maxRecDepth 100000 in
theorem s_X3_bequest_j34 {y : LY} {l : Launch} {E : ET} (X : CX y l E cX3_bequest 3 RX3 (rmd 8)) (Z : ZX E (some .int)) (hy : y.1 ≤ (eS E).heap.size)   {K12 : Int32 → ST → Option (Int32 × ST)} (hK12 : ∀ (v1 : Int32) (σ : ST), WW y l E 3 (fun a => QM y E (xI a)) 12 [(0, .ref (ad y 13)), (1, .int v1)] [] σ (K12 v1 σ)) (σ : ST) : WW y l E 3 (fun a => QM y E (xI a)) 34 [(0, .ref (ad y 13))] [] σ (T_X3_bequest_j34 K12  σ) := by
  unfold T_X3_bequest_j34
  refine r_aload_n (pc := 34) X dX3_bequest_34 0 rfl rfl ?_
  refine r_callvI (pc := 35) X dX3_bequest_35 cf_X3_statement ml_X3_157 (rf rfl rfl) hy oc_13.1 hc_3 (fun b hb => m_X3_statement hb) rfl rfl (Nat.le_of_ble_eq_true rfl) (fun x1 σ2 => ?_)
  refine r_istore_n (pc := 38) (lv' := [(1, .int _), (0, .ref _)]) X dX3_bequest_38 rfl (by decide) rfl ?_
  refine r_aload_n (pc := 39) X dX3_bequest_39 1 rfl rfl ?_
  refine r_dup (pc := 40) X dX3_bequest_40 rfl ?_
  refine r_geti (pc := 41) X dX3_bequest_41 fl_X3_121 oc_13 rfl (fun x3 => ?_)
  refine r_iload_n (pc := 44) X dX3_bequest_44 0 rfl rfl ?_
  refine r_if_eq (pc := 45) (tgt := 52) X dX3_bequest_45 (by decide) ?_ ?_
  · refine r_iconst (pc := 52) X dX3_bequest_52 kc_0 ?_
    refine r_iadd (pc := 53) X dX3_bequest_53 ?_
    refine r_puti (pc := 54) X dX3_bequest_54 fl_X3_121 fw_3_21 oc_13 rfl (fun σ4 => ?_)
    refine r_goto (pc := 57) (tgt := 12) X dX3_bequest_57 (by decide) ?_
    refine r_sub [1, 0] rfl ?_
    exact hK12 x1 σ4
  · refine r_iconst (pc := 48) X dX3_bequest_48 kc_1 ?_
    refine r_goto (pc := 49) (tgt := 53) X dX3_bequest_49 (by decide) ?_
    refine r_iadd (pc := 53) X dX3_bequest_53 ?_
    refine r_puti (pc := 54) X dX3_bequest_54 fl_X3_121 fw_3_21 oc_13 rfl (fun σ5 => ?_)
    refine r_goto (pc := 57) (tgt := 12) X dX3_bequest_57 (by decide) ?_
    refine r_sub [1, 0] rfl ?_
    exact hK12 x1 σ5

set_option maxRecDepth 100000 in
theorem s_X3_bequest_L86 {y : LY} {l : Launch} {E : ET} (X : CX y l E cX3_bequest 3 RX3 (rmd 8)) (Z : ZX E (some .int)) (hy : y.1 ≤ (eS E).heap.size)     (n : Nat) : ∀ (v2 : Int32) (σ : ST), WW y l E 3 (fun a => QM y E (xI a)) 86 [(0, .ref (ad y 13)), (2, .int v2)] [] σ (T_X3_bequest_L86  n v2 σ) := by
  induction n with
  | zero => intros; exact r_none rfl
  | succ n ih =>
    intro v2 σ
    unfold T_X3_bequest_L86
    refine r_iload_n (pc := 86) X dX3_bequest_86 1 rfl rfl ?_
    refine r_aload_n (pc := 87) X dX3_bequest_87 0 rfl rfl ?_
    refine r_geti (pc := 88) X dX3_bequest_88 fl_X3_121 oc_13 rfl (fun x1 => ?_)
    refine r_icmp_ge (pc := 91) (tgt := 128) X dX3_bequest_91 (by decide) ?_ ?_
    · refine r_aload_n (pc := 128) X dX3_bequest_128 0 rfl rfl ?_
      refine r_iconst (pc := 129) X dX3_bequest_129 kc_0 ?_
      refine r_puti (pc := 130) X dX3_bequest_130 fl_X3_168 fw_3_26 oc_13 rfl (fun σ2 => ?_)
      refine r_aload_n (pc := 133) X dX3_bequest_133 0 rfl rfl ?_
      refine r_geti (pc := 134) X dX3_bequest_134 fl_X3_121 oc_13 rfl (fun x3 => ?_)
      exact r_iret (pc := 137) X Z dX3_bequest_137 rfl
    · refine r_aload_n (pc := 94) X dX3_bequest_94 0 rfl rfl ?_
      refine r_iload_n (pc := 95) X dX3_bequest_95 1 rfl rfl ?_
      refine r_callvI (pc := 96) X dX3_bequest_96 cf_X3_comes ml_X3_165 (rf rfl rfl) hy oc_13.1 hc_3 (fun b hb => m_X3_comes hb) rfl rfl (Nat.le_of_ble_eq_true rfl) (fun x4 σ5 => ?_)
      refine r_if_eq (pc := 99) (tgt := 105) X dX3_bequest_99 (by decide) ?_ ?_
      · refine r_aload_n (pc := 105) X dX3_bequest_105 0 rfl rfl ?_
        refine r_iconst (pc := 106) X dX3_bequest_106 kc_1 ?_
        refine r_iconst (pc := 107) X dX3_bequest_107 kc_0 ?_
        refine r_callvV (pc := 108) X dX3_bequest_108 cf_X3_passesAll ml_X3_161 (rf rfl rfl) hy oc_13.1 hc_3 (fun b hb => m_X3_passesAll hb) rfl rfl (Nat.le_of_ble_eq_true rfl) (fun σ7 => ?_)
        refine r_sipush (pc := 111) X dX3_bequest_111 ks_m2000 ?_
        refine r_aload_n (pc := 114) X dX3_bequest_114 0 rfl rfl ?_
        refine r_geta (pc := 115) X dX3_bequest_115 fl_X3_49 oc_13 (by decide) ?_
        refine r_iload_n (pc := 118) X dX3_bequest_118 1 rfl rfl ?_
        refine r_iald (pc := 119) X dX3_bequest_119 ar_13_17 (fun x8 => ?_)
        refine r_isub (pc := 120) X dX3_bequest_120 ?_
        exact r_iret (pc := 121) X Z dX3_bequest_121 rfl
      · refine r_goto (pc := 102) (tgt := 122) X dX3_bequest_102 (by decide) ?_
        refine r_iinc (pc := 122) (lv' := [(0, .ref _)]) X dX3_bequest_122 1 rfl (congrArg (fun z => v2 + z) kc_1) (by decide) rfl (fun x9 => ?_)
        refine r_goto (pc := 125) (tgt := 86) X dX3_bequest_125 (by decide) ?_
        refine r_sub [1, 0] rfl ?_
        exact ih x9 σ5

set_option maxRecDepth 100000 in
theorem s_X3_bequest_j60 {y : LY} {l : Launch} {E : ET} (X : CX y l E cX3_bequest 3 RX3 (rmd 8)) (Z : ZX E (some .int)) (hy : y.1 ≤ (eS E).heap.size)     (v1 : Int32) (σ : ST) : WW y l E 3 (fun a => QM y E (xI a)) 60 [(0, .ref (ad y 13)), (1, .int v1)] [] σ (T_X3_bequest_j60   v1 σ) := by
  unfold T_X3_bequest_j60
  refine r_aload_n (pc := 60) X dX3_bequest_60 0 rfl rfl ?_
  refine r_iconst (pc := 61) X dX3_bequest_61 kc_0 ?_
  refine r_puti (pc := 62) X dX3_bequest_62 fl_X3_99 fw_3_19 oc_13 rfl (fun σ1 => ?_)
  refine r_iload_n (pc := 65) X dX3_bequest_65 1 rfl rfl ?_
  refine r_if_ne (pc := 66) (tgt := 78) X dX3_bequest_66 (by decide) ?_ ?_
  · refine r_aload_n (pc := 78) X dX3_bequest_78 0 rfl rfl ?_
    refine r_iconst (pc := 79) X dX3_bequest_79 kc_1 ?_
    refine r_iconst (pc := 80) X dX3_bequest_80 kc_1 ?_
    refine r_callvV (pc := 81) X dX3_bequest_81 cf_X3_passesAll ml_X3_161 (rf rfl rfl) hy oc_13.1 hc_3 (fun b hb => m_X3_passesAll hb) rfl rfl (Nat.le_of_ble_eq_true rfl) (fun σ3 => ?_)
    refine r_iconst (pc := 84) X dX3_bequest_84 kc_0 ?_
    refine r_istore_n (pc := 85) (lv' := [(2, .int _), (0, .ref _), (1, .int _)]) X dX3_bequest_85 rfl (by decide) rfl ?_
    refine r_sub [1, 0] rfl ?_
    exact s_X3_bequest_L86 X Z hy FU 0 σ3
  · refine r_sipush (pc := 69) X dX3_bequest_69 ks_m1000 ?_
    refine r_aload_n (pc := 72) X dX3_bequest_72 0 rfl rfl ?_
    refine r_geti (pc := 73) X dX3_bequest_73 fl_X3_106 oc_13 rfl (fun x4 => ?_)
    refine r_isub (pc := 76) X dX3_bequest_76 ?_
    exact r_iret (pc := 77) X Z dX3_bequest_77 rfl

set_option maxRecDepth 100000 in
theorem s_X3_bequest_L12 {y : LY} {l : Launch} {E : ET} (X : CX y l E cX3_bequest 3 RX3 (rmd 8)) (Z : ZX E (some .int)) (hy : y.1 ≤ (eS E).heap.size)     (n : Nat) : ∀ (v1 : Int32) (σ : ST), WW y l E 3 (fun a => QM y E (xI a)) 12 [(0, .ref (ad y 13)), (1, .int v1)] [] σ (T_X3_bequest_L12  n v1 σ) := by
  induction n with
  | zero => intros; exact r_none rfl
  | succ n ih =>
    intro v1 σ
    unfold T_X3_bequest_L12
    refine r_iload_n (pc := 12) X dX3_bequest_12 1 rfl rfl ?_
    refine r_if_eq (pc := 13) (tgt := 60) X dX3_bequest_13 (by decide) ?_ ?_
    · exact s_X3_bequest_j60 X Z hy v1 σ
    · refine r_aload_n (pc := 16) X dX3_bequest_16 0 rfl rfl ?_
      refine r_geti (pc := 17) X dX3_bequest_17 fl_X3_106 oc_13 rfl (fun x1 => ?_)
      refine r_aload_n (pc := 20) X dX3_bequest_20 0 rfl rfl ?_
      refine r_geti (pc := 21) X dX3_bequest_21 fl_X3_99 oc_13 rfl (fun x2 => ?_)
      refine r_icmp_lt (pc := 24) (tgt := 34) X dX3_bequest_24 (by decide) ?_ ?_
      · refine r_sub [0] rfl ?_
        exact s_X3_bequest_j34 X Z hy (fun v1 s => ih v1 s) σ
      · refine r_aload_n (pc := 27) X dX3_bequest_27 0 rfl rfl ?_
        refine r_geti (pc := 28) X dX3_bequest_28 fl_X3_121 oc_13 rfl (fun x3 => ?_)
        refine r_if_ne (pc := 31) (tgt := 60) X dX3_bequest_31 (by decide) ?_ ?_
        · exact s_X3_bequest_j60 X Z hy v1 σ
        · refine r_sub [0] rfl ?_
          exact s_X3_bequest_j34 X Z hy (fun v1 s => ih v1 s) σ

set_option maxRecDepth 100000 in
theorem m_X3_bequest {y : LY} {l : Launch}   {σ : ST} {a : (Int32 × ST)} (h : T_X3_bequest σ = some a) : MU y l yX3_bequest cX3_bequest 3 (some .int) (rmd 8) [.ref (ad y 13)] σ (xI a) := by
  refine MU.of (φ := xI) h (by decide +kernel) rfl (fun E X Z hy => ?_)
  have X : CX y l E cX3_bequest 3 RX3 (rmd 8) := X
  show WW y l E 3 _ 0 [(0, .ref (ad y 13))] [] σ (T_X3_bequest σ)
  unfold T_X3_bequest
  refine r_aload_n (pc := 0) X dX3_bequest_0 0 rfl rfl ?_
  refine r_iconst (pc := 1) X dX3_bequest_1 kc_0 ?_
  refine r_puti (pc := 2) X dX3_bequest_2 fl_X3_106 fw_3_20 oc_13 rfl (fun σ1 => ?_)
  refine r_aload_n (pc := 5) X dX3_bequest_5 0 rfl rfl ?_
  refine r_iconst (pc := 6) X dX3_bequest_6 kc_0 ?_
  refine r_puti (pc := 7) X dX3_bequest_7 fl_X3_121 fw_3_21 oc_13 rfl (fun σ2 => ?_)
  refine r_iconst (pc := 10) X dX3_bequest_10 kc_1 ?_
  refine r_istore_n (pc := 11) (lv' := [(1, .int _), (0, .ref _)]) X dX3_bequest_11 rfl (by decide) rfl ?_
  refine r_sub [1, 0] rfl ?_
  exact s_X3_bequest_L12 X Z hy FU 1 σ2

set_option maxRecDepth 100000 in
theorem m_X3_thinks {y : LY} {l : Launch}   {σ : ST} {a : ST} (h : T_X3_thinks σ = some a) : MU y l yX3_thinks cX3_thinks 1 none (rmd 2) [.ref (ad y 13)] σ (xV a) := by
  refine MU.of (φ := xV) h (by decide +kernel) rfl (fun E X Z hy => ?_)
  have X : CX y l E cX3_thinks 1 RX3 (rmd 2) := X
  show WW y l E 1 _ 0 [(0, .ref (ad y 13))] [] σ (T_X3_thinks σ)
  unfold T_X3_thinks
  refine r_aload_n (pc := 0) X dX3_thinks_0 0 rfl rfl ?_
  refine r_iconst (pc := 1) X dX3_thinks_1 kc_2 ?_
  refine r_iconst (pc := 2) X dX3_thinks_2 kc_1 ?_
  refine r_callvV (pc := 3) X dX3_thinks_3 cf_X3_passesAll ml_X3_161 (rf rfl rfl) hy oc_13.1 hc_3 (fun b hb => m_X3_passesAll hb) rfl rfl (Nat.le_of_ble_eq_true rfl) (fun σ2 => ?_)
  exact r_vret (pc := 6) X Z dX3_thinks_6 rfl

set_option maxRecDepth 100000 in
theorem m_X3_forgets {y : LY} {l : Launch}   {σ : ST} {a : ST} (h : T_X3_forgets σ = some a) : MU y l yX3_forgets cX3_forgets 1 none (rmd 2) [.ref (ad y 13)] σ (xV a) := by
  refine MU.of (φ := xV) h (by decide +kernel) rfl (fun E X Z hy => ?_)
  have X : CX y l E cX3_forgets 1 RX3 (rmd 2) := X
  show WW y l E 1 _ 0 [(0, .ref (ad y 13))] [] σ (T_X3_forgets σ)
  unfold T_X3_forgets
  refine r_aload_n (pc := 0) X dX3_forgets_0 0 rfl rfl ?_
  refine r_iconst (pc := 1) X dX3_forgets_1 kc_2 ?_
  refine r_iconst (pc := 2) X dX3_forgets_2 kc_0 ?_
  refine r_callvV (pc := 3) X dX3_forgets_3 cf_X3_passesAll ml_X3_161 (rf rfl rfl) hy oc_13.1 hc_3 (fun b hb => m_X3_passesAll hb) rfl rfl (Nat.le_of_ble_eq_true rfl) (fun σ2 => ?_)
  exact r_vret (pc := 6) X Z dX3_forgets_6 rfl

set_option maxRecDepth 100000 in
theorem s_X3_keepsBack_j51 {y : LY} {l : Launch} {E : ET} (X : CX y l E cX3_keepsBack 2 RX3 (rmd 2)) (Z : ZX E none) (hy : y.1 ≤ (eS E).heap.size)     (σ : ST) : WW y l E 2 (fun a => QM y E (xV a)) 51 [(0, .ref (ad y 13))] [] σ (T_X3_keepsBack_j51   σ) := by
  unfold T_X3_keepsBack_j51
  refine r_aload_n (pc := 51) X dX3_keepsBack_51 0 rfl rfl ?_
  refine r_iconst (pc := 52) X dX3_keepsBack_52 kc_3 ?_
  refine r_aload_n (pc := 53) X dX3_keepsBack_53 0 rfl rfl ?_
  refine r_geti (pc := 54) X dX3_keepsBack_54 fl_X3_168 oc_13 rfl (fun x1 => ?_)
  refine r_iadd (pc := 57) X dX3_keepsBack_57 ?_
  refine r_iconst (pc := 58) X dX3_keepsBack_58 kc_1 ?_
  refine r_callvV (pc := 59) X dX3_keepsBack_59 cf_X3_passesAll ml_X3_161 (rf rfl rfl) hy oc_13.1 hc_3 (fun b hb => m_X3_passesAll hb) rfl rfl (Nat.le_of_ble_eq_true rfl) (fun σ3 => ?_)
  refine r_aload_n (pc := 62) X dX3_keepsBack_62 0 rfl rfl ?_
  refine r_dup (pc := 63) X dX3_keepsBack_63 rfl ?_
  refine r_geti (pc := 64) X dX3_keepsBack_64 fl_X3_168 oc_13 rfl (fun x4 => ?_)
  refine r_iconst (pc := 67) X dX3_keepsBack_67 kc_1 ?_
  refine r_iadd (pc := 68) X dX3_keepsBack_68 ?_
  refine r_puti (pc := 69) X dX3_keepsBack_69 fl_X3_168 fw_3_26 oc_13 rfl (fun σ5 => ?_)
  exact r_vret (pc := 72) X Z dX3_keepsBack_72 rfl

set_option maxRecDepth 100000 in
theorem s_X3_keepsBack_L13 {y : LY} {l : Launch} {E : ET} (X : CX y l E cX3_keepsBack 2 RX3 (rmd 2)) (Z : ZX E none) (hy : y.1 ≤ (eS E).heap.size)     (n : Nat) : ∀ (v1 : Int32) (σ : ST), WW y l E 2 (fun a => QM y E (xV a)) 13 [(0, .ref (ad y 13)), (1, .int v1)] [] σ (T_X3_keepsBack_L13  n v1 σ) := by
  induction n with
  | zero => intros; exact r_none rfl
  | succ n ih =>
    intro v1 σ
    unfold T_X3_keepsBack_L13
    refine r_iload_n (pc := 13) X dX3_keepsBack_13 1 rfl rfl ?_
    refine r_sipush (pc := 14) X dX3_keepsBack_14 ks_600 ?_
    refine r_icmp_ge (pc := 17) (tgt := 41) X dX3_keepsBack_17 (by decide) ?_ ?_
    · refine r_aload_n (pc := 41) X dX3_keepsBack_41 0 rfl rfl ?_
      refine r_dup (pc := 42) X dX3_keepsBack_42 rfl ?_
      refine r_geti (pc := 43) X dX3_keepsBack_43 fl_X3_168 oc_13 rfl (fun x1 => ?_)
      refine r_iconst (pc := 46) X dX3_keepsBack_46 kc_1 ?_
      refine r_isub (pc := 47) X dX3_keepsBack_47 ?_
      refine r_puti (pc := 48) X dX3_keepsBack_48 fl_X3_168 fw_3_26 oc_13 rfl (fun σ2 => ?_)
      refine r_sub [0] rfl ?_
      exact s_X3_keepsBack_j51 X Z hy σ2
    · refine r_aload_n (pc := 20) X dX3_keepsBack_20 0 rfl rfl ?_
      refine r_geta (pc := 21) X dX3_keepsBack_21 fl_X3_55 oc_13 (by decide) ?_
      refine r_iload_n (pc := 24) X dX3_keepsBack_24 1 rfl rfl ?_
      refine r_aload_n (pc := 25) X dX3_keepsBack_25 0 rfl rfl ?_
      refine r_geta (pc := 26) X dX3_keepsBack_26 fl_X3_55 oc_13 (by decide) ?_
      refine r_iload_n (pc := 29) X dX3_keepsBack_29 1 rfl rfl ?_
      refine r_bipush (pc := 30) X dX3_keepsBack_30 kb_60 ?_
      refine r_iadd (pc := 32) X dX3_keepsBack_32 ?_
      refine r_iald (pc := 33) X dX3_keepsBack_33 ar_13_22 (fun x3 => ?_)
      refine r_iast (pc := 34) X dX3_keepsBack_34 ar_13_22 (fun σ4 => ?_)
      refine r_iinc (pc := 35) (lv' := [(0, .ref _)]) X dX3_keepsBack_35 1 rfl (congrArg (fun z => v1 + z) kc_1) (by decide) rfl (fun x5 => ?_)
      refine r_goto (pc := 38) (tgt := 13) X dX3_keepsBack_38 (by decide) ?_
      refine r_sub [1, 0] rfl ?_
      exact ih x5 σ4

set_option maxRecDepth 100000 in
theorem m_X3_keepsBack {y : LY} {l : Launch}   {σ : ST} {a : ST} (h : T_X3_keepsBack σ = some a) : MU y l yX3_keepsBack cX3_keepsBack 2 none (rmd 2) [.ref (ad y 13)] σ (xV a) := by
  refine MU.of (φ := xV) h (by decide +kernel) rfl (fun E X Z hy => ?_)
  have X : CX y l E cX3_keepsBack 2 RX3 (rmd 2) := X
  show WW y l E 2 _ 0 [(0, .ref (ad y 13))] [] σ (T_X3_keepsBack σ)
  unfold T_X3_keepsBack
  refine r_aload_n (pc := 0) X dX3_keepsBack_0 0 rfl rfl ?_
  refine r_geti (pc := 1) X dX3_keepsBack_1 fl_X3_168 oc_13 rfl (fun x1 => ?_)
  refine r_bipush (pc := 4) X dX3_keepsBack_4 kb_8 ?_
  refine r_icmp_ne (pc := 6) (tgt := 51) X dX3_keepsBack_6 (by decide) ?_ ?_
  · exact s_X3_keepsBack_j51 X Z hy σ
  · refine r_sipush (pc := 9) X dX3_keepsBack_9 ks_180 ?_
    refine r_istore_n (pc := 12) (lv' := [(1, .int _), (0, .ref _)]) X dX3_keepsBack_12 rfl (by decide) rfl ?_
    refine r_sub [1, 0] rfl ?_
    exact s_X3_keepsBack_L13 X Z hy FU 180 σ

set_option maxRecDepth 100000 in
theorem m_X3_back {y : LY} {l : Launch}   {σ : ST} {a : (Int32 × ST)} (h : T_X3_back σ = some a) : MU y l yX3_back cX3_back 1 (some .int) (rmd 2) [.ref (ad y 13)] σ (xI a) := by
  refine MU.of (φ := xI) h (by decide +kernel) rfl (fun E X Z hy => ?_)
  have X : CX y l E cX3_back 1 RX3 (rmd 2) := X
  show WW y l E 1 _ 0 [(0, .ref (ad y 13))] [] σ (T_X3_back σ)
  unfold T_X3_back
  refine r_aload_n (pc := 0) X dX3_back_0 0 rfl rfl ?_
  refine r_geti (pc := 1) X dX3_back_1 fl_X3_168 oc_13 rfl (fun x1 => ?_)
  refine r_if_ne (pc := 4) (tgt := 14) X dX3_back_4 (by decide) ?_ ?_
  · refine r_aload_n (pc := 14) X dX3_back_14 0 rfl rfl ?_
    refine r_dup (pc := 15) X dX3_back_15 rfl ?_
    refine r_geti (pc := 16) X dX3_back_16 fl_X3_168 oc_13 rfl (fun x2 => ?_)
    refine r_iconst (pc := 19) X dX3_back_19 kc_1 ?_
    refine r_isub (pc := 20) X dX3_back_20 ?_
    refine r_puti (pc := 21) X dX3_back_21 fl_X3_168 fw_3_26 oc_13 rfl (fun σ3 => ?_)
    refine r_aload_n (pc := 24) X dX3_back_24 0 rfl rfl ?_
    refine r_iconst (pc := 25) X dX3_back_25 kc_3 ?_
    refine r_aload_n (pc := 26) X dX3_back_26 0 rfl rfl ?_
    refine r_geti (pc := 27) X dX3_back_27 fl_X3_168 oc_13 rfl (fun x4 => ?_)
    refine r_iadd (pc := 30) X dX3_back_30 ?_
    refine r_iconst (pc := 31) X dX3_back_31 kc_0 ?_
    refine r_callvV (pc := 32) X dX3_back_32 cf_X3_passesAll ml_X3_161 (rf rfl rfl) hy oc_13.1 hc_3 (fun b hb => m_X3_passesAll hb) rfl rfl (Nat.le_of_ble_eq_true rfl) (fun σ6 => ?_)
    refine r_aload_n (pc := 35) X dX3_back_35 0 rfl rfl ?_
    refine r_geti (pc := 36) X dX3_back_36 fl_X3_168 oc_13 rfl (fun x7 => ?_)
    exact r_iret (pc := 39) X Z dX3_back_39 rfl
  · refine r_aload_n (pc := 7) X dX3_back_7 0 rfl rfl ?_
    refine r_bipush (pc := 8) X dX3_back_8 kb_m3 ?_
    refine r_callvI (pc := 10) X dX3_back_10 cf_X3_no ml_X3_102 (rf rfl rfl) hy oc_13.1 hc_3 (fun b hb => m_X3_no hb) rfl rfl (Nat.le_of_ble_eq_true rfl) (fun x8 σ9 => ?_)
    exact r_iret (pc := 13) X Z dX3_back_13 rfl

set_option maxRecDepth 100000 in
theorem m_X3_image {y : LY} {l : Launch}   {σ : ST} {a : (Int32 × ST)} (h : T_X3_image σ = some a) : MU y l yX3_image cX3_image 1 (some .int) (rmd 2) [.ref (ad y 13)] σ (xI a) := by
  refine MU.of (φ := xI) h (by decide +kernel) rfl (fun E X Z hy => ?_)
  have X : CX y l E cX3_image 1 RX3 (rmd 2) := X
  show WW y l E 1 _ 0 [(0, .ref (ad y 13))] [] σ (T_X3_image σ)
  unfold T_X3_image
  refine r_aload_n (pc := 0) X dX3_image_0 0 rfl rfl ?_
  refine r_iconst (pc := 1) X dX3_image_1 kc_1 ?_
  refine r_putz (pc := 2) X dX3_image_2 fl_X3_185 fw_3_23 oc_13 rfl (fun σ1 => ?_)
  refine r_aload_n (pc := 5) X dX3_image_5 0 rfl rfl ?_
  refine r_iconst (pc := 6) X dX3_image_6 kc_0 ?_
  refine r_iconst (pc := 7) X dX3_image_7 kc_1 ?_
  refine r_callvV (pc := 8) X dX3_image_8 cf_X3_passesAll ml_X3_161 (rf rfl rfl) hy oc_13.1 hc_3 (fun b hb => m_X3_passesAll hb) rfl rfl (Nat.le_of_ble_eq_true rfl) (fun σ3 => ?_)
  refine r_aload_n (pc := 11) X dX3_image_11 0 rfl rfl ?_
  refine r_geti (pc := 12) X dX3_image_12 fl_X3_127 oc_13 rfl (fun x4 => ?_)
  exact r_iret (pc := 15) X Z dX3_image_15 rfl

set_option maxRecDepth 100000 in
theorem m_X3_restore {y : LY} {l : Launch}   {σ : ST} {a : (Int32 × ST)} (h : T_X3_restore σ = some a) : MU y l yX3_restore cX3_restore 1 (some .int) (rmd 2) [.ref (ad y 13)] σ (xI a) := by
  refine MU.of (φ := xI) h (by decide +kernel) rfl (fun E X Z hy => ?_)
  have X : CX y l E cX3_restore 1 RX3 (rmd 2) := X
  show WW y l E 1 _ 0 [(0, .ref (ad y 13))] [] σ (T_X3_restore σ)
  unfold T_X3_restore
  refine r_aload_n (pc := 0) X dX3_restore_0 0 rfl rfl ?_
  refine r_geti (pc := 1) X dX3_restore_1 fl_X3_185 oc_13 rfl (fun x1 => ?_)
  refine r_if_ne (pc := 4) (tgt := 14) X dX3_restore_4 (by decide) ?_ ?_
  · refine r_aload_n (pc := 14) X dX3_restore_14 0 rfl rfl ?_
    refine r_iconst (pc := 15) X dX3_restore_15 kc_0 ?_
    refine r_iconst (pc := 16) X dX3_restore_16 kc_0 ?_
    refine r_callvV (pc := 17) X dX3_restore_17 cf_X3_passesAll ml_X3_161 (rf rfl rfl) hy oc_13.1 hc_3 (fun b hb => m_X3_passesAll hb) rfl rfl (Nat.le_of_ble_eq_true rfl) (fun σ3 => ?_)
    refine r_aload_n (pc := 20) X dX3_restore_20 0 rfl rfl ?_
    refine r_iconst (pc := 21) X dX3_restore_21 kc_0 ?_
    refine r_puti (pc := 22) X dX3_restore_22 fl_X3_168 fw_3_26 oc_13 rfl (fun σ4 => ?_)
    refine r_aload_n (pc := 25) X dX3_restore_25 0 rfl rfl ?_
    refine r_geti (pc := 26) X dX3_restore_26 fl_X3_127 oc_13 rfl (fun x5 => ?_)
    exact r_iret (pc := 29) X Z dX3_restore_29 rfl
  · refine r_aload_n (pc := 7) X dX3_restore_7 0 rfl rfl ?_
    refine r_bipush (pc := 8) X dX3_restore_8 kb_m3 ?_
    refine r_callvI (pc := 10) X dX3_restore_10 cf_X3_no ml_X3_102 (rf rfl rfl) hy oc_13.1 hc_3 (fun b hb => m_X3_no hb) rfl rfl (Nat.le_of_ble_eq_true rfl) (fun x6 σ7 => ?_)
    exact r_iret (pc := 13) X Z dX3_restore_13 rfl

set_option maxRecDepth 100000 in
theorem s_X3_counts_L7 {y : LY} {l : Launch} {E : ET} (X : CX y l E cX3_counts 2 RX3 (rmd 0)) (Z : ZX E none) (hy : y.1 ≤ (eS E).heap.size)     (n : Nat) : ∀ (v1 : Int32) (σ : ST), WW y l E 2 (fun a => QM y E (xV a)) 7 [(0, .ref (ad y 13)), (1, .int v1)] [] σ (T_X3_counts_L7  n v1 σ) := by
  induction n with
  | zero => intros; exact r_none rfl
  | succ n ih =>
    intro v1 σ
    unfold T_X3_counts_L7
    refine r_iload_n (pc := 7) X dX3_counts_7 1 rfl rfl ?_
    refine r_iconst (pc := 8) X dX3_counts_8 kc_5 ?_
    refine r_icmp_ge (pc := 9) (tgt := 32) X dX3_counts_9 (by decide) ?_ ?_
    · exact r_vret (pc := 32) X Z dX3_counts_32 rfl
    · refine r_aload_n (pc := 12) X dX3_counts_12 0 rfl rfl ?_
      refine r_geta (pc := 13) X dX3_counts_13 fl_X3_58 oc_13 (by decide) ?_
      refine r_iload_n (pc := 16) X dX3_counts_16 1 rfl rfl ?_
      refine r_iconst (pc := 17) X dX3_counts_17 kc_0 ?_
      refine r_iast (pc := 18) X dX3_counts_18 ar_13_27 (fun σ1 => ?_)
      refine r_aload_n (pc := 19) X dX3_counts_19 0 rfl rfl ?_
      refine r_geta (pc := 20) X dX3_counts_20 fl_X3_61 oc_13 (by decide) ?_
      refine r_iload_n (pc := 23) X dX3_counts_23 1 rfl rfl ?_
      refine r_iconst (pc := 24) X dX3_counts_24 kc_0 ?_
      refine r_iast (pc := 25) X dX3_counts_25 ar_13_28 (fun σ2 => ?_)
      refine r_iinc (pc := 26) (lv' := [(0, .ref _)]) X dX3_counts_26 1 rfl (congrArg (fun z => v1 + z) kc_1) (by decide) rfl (fun x3 => ?_)
      refine r_goto (pc := 29) (tgt := 7) X dX3_counts_29 (by decide) ?_
      refine r_sub [1, 0] rfl ?_
      exact ih x3 σ2

set_option maxRecDepth 100000 in
theorem m_X3_counts {y : LY} {l : Launch}   {σ : ST} {a : ST} (h : T_X3_counts σ = some a) : MU y l yX3_counts cX3_counts 2 none (rmd 0) [.ref (ad y 13)] σ (xV a) := by
  refine MU.of (φ := xV) h (by decide +kernel) rfl (fun E X Z hy => ?_)
  have X : CX y l E cX3_counts 2 RX3 (rmd 0) := X
  show WW y l E 2 _ 0 [(0, .ref (ad y 13))] [] σ (T_X3_counts σ)
  unfold T_X3_counts
  refine r_aload_n (pc := 0) X dX3_counts_0 0 rfl rfl ?_
  refine r_iconst (pc := 1) X dX3_counts_1 kc_0 ?_
  refine r_puti (pc := 2) X dX3_counts_2 fl_X3_217 fw_3_29 oc_13 rfl (fun σ1 => ?_)
  refine r_iconst (pc := 5) X dX3_counts_5 kc_0 ?_
  refine r_istore_n (pc := 6) (lv' := [(1, .int _), (0, .ref _)]) X dX3_counts_6 rfl (by decide) rfl ?_
  refine r_sub [1, 0] rfl ?_
  exact s_X3_counts_L7 X Z hy FU 0 σ1

set_option maxRecDepth 100000 in
theorem s_X3_goes_L2 {y : LY} {l : Launch} {E : ET} (X : CX y l E cX3_goes 3 RX3 (rmd 6)) (Z : ZX E none) (hy : y.1 ≤ (eS E).heap.size)     (n : Nat) : ∀ (v1 : Int32) (v2 : Int32) (σ : ST), WW y l E 3 (fun a => QM y E (xV a)) 2 [(0, .ref (ad y 13)), (1, .int v1), (2, .int v2)] [] σ (T_X3_goes_L2  n v1 v2 σ) := by
  induction n with
  | zero => intros; exact r_none rfl
  | succ n ih =>
    intro v1 v2 σ
    unfold T_X3_goes_L2
    refine r_iload_n (pc := 2) X dX3_goes_2 2 rfl rfl ?_
    refine r_iload_n (pc := 3) X dX3_goes_3 1 rfl rfl ?_
    refine r_icmp_ge (pc := 4) (tgt := 18) X dX3_goes_4 (by decide) ?_ ?_
    · exact r_vret (pc := 18) X Z dX3_goes_18 rfl
    · refine r_aload_n (pc := 7) X dX3_goes_7 0 rfl rfl ?_
      refine r_iconst (pc := 8) X dX3_goes_8 kc_0 ?_
      refine r_callvV (pc := 9) X dX3_goes_9 cf_X3_goesHour ml_X3_130 (rf rfl rfl) hy oc_13.1 hc_3 (fun b hb => m_X3_goesHour hb) rfl rfl (Nat.le_of_ble_eq_true rfl) (fun σ2 => ?_)
      refine r_iinc (pc := 12) (lv' := [(0, .ref _), (1, .int _)]) X dX3_goes_12 2 rfl (congrArg (fun z => v2 + z) kc_1) (by decide) rfl (fun x3 => ?_)
      refine r_goto (pc := 15) (tgt := 2) X dX3_goes_15 (by decide) ?_
      refine r_sub [1, 2, 0] rfl ?_
      exact ih v1 x3 σ2

set_option maxRecDepth 100000 in
theorem m_X3_goes {y : LY} {l : Launch}  {a0 : Int32} {σ : ST} {a : ST} (h : T_X3_goes a0 σ = some a) : MU y l yX3_goes cX3_goes 3 none (rmd 6) [.ref (ad y 13), .int a0] σ (xV a) := by
  refine MU.of (φ := xV) h (by decide +kernel) rfl (fun E X Z hy => ?_)
  have X : CX y l E cX3_goes 3 RX3 (rmd 6) := X
  show WW y l E 3 _ 0 [(0, .ref (ad y 13)), (1, .int a0)] [] σ (T_X3_goes a0 σ)
  unfold T_X3_goes
  refine r_iconst (pc := 0) X dX3_goes_0 kc_0 ?_
  refine r_istore_n (pc := 1) (lv' := [(2, .int _), (0, .ref _), (1, .int _)]) X dX3_goes_1 rfl (by decide) rfl ?_
  refine r_sub [1, 2, 0] rfl ?_
  exact s_X3_goes_L2 X Z hy FU a0 0 σ

set_option maxRecDepth 100000 in
theorem m_X3_bagOf {y : LY} {l : Launch}  {a0 : Int32} {a1 : Int32} {σ : ST} {a : (Int32 × ST)} (h : T_X3_bagOf a0 a1 σ = some a) : MU y l yX3_bagOf cX3_bagOf 3 (some .int) (rmd 3) [.ref (ad y 13), .int a0, .int a1] σ (xI a) := by
  refine MU.of (φ := xI) h (by decide +kernel) rfl (fun E X Z hy => ?_)
  have X : CX y l E cX3_bagOf 3 RX3 (rmd 3) := X
  show WW y l E 3 _ 0 [(0, .ref (ad y 13)), (1, .int a0), (2, .int a1)] [] σ (T_X3_bagOf a0 a1 σ)
  unfold T_X3_bagOf
  refine r_aload_n (pc := 0) X dX3_bagOf_0 0 rfl rfl ?_
  refine r_iload_n (pc := 1) X dX3_bagOf_1 1 rfl rfl ?_
  refine r_callvp (pc := 2) X dX3_bagOf_2 cf_X3_isBag ml_X3_141 (rf rfl rfl) hy oc_13.1 hc_3 (fun b hb => m_X3_isBag hb) rfl rfl (Nat.le_of_ble_eq_true rfl) (fun x1 => ?_)
  refine r_if_ne (pc := 5) (tgt := 14) X dX3_bagOf_5 (by decide) ?_ ?_
  · refine r_iload_n (pc := 14) X dX3_bagOf_14 2 rfl rfl ?_
    refine r_ite (fun h0 => ?_) (fun h0 => ?_)
    · refine r_tabIn (pc := 15) (tgt := 56) (off := 41) X dX3_bagOf_15 h0 (by decide) (by decide) (by decide) (by decide) ?_
      refine r_aload_n (pc := 56) X dX3_bagOf_56 0 rfl rfl ?_
      refine r_geta (pc := 57) X dX3_bagOf_57 fl_X3_13 oc_13 (by decide) ?_
      refine r_iload_n (pc := 60) X dX3_bagOf_60 1 rfl rfl ?_
      refine r_iald (pc := 61) X dX3_bagOf_61 ar_13_1 (fun x16 => ?_)
      exact r_iret (pc := 62) X Z dX3_bagOf_62 rfl
    · refine r_ite (fun h1 => ?_) (fun h1 => ?_)
      · refine r_tabIn (pc := 15) (tgt := 63) (off := 48) X dX3_bagOf_15 h1 (by decide) (by decide) (by decide) (by decide) ?_
        refine r_aload_n (pc := 63) X dX3_bagOf_63 0 rfl rfl ?_
        refine r_geta (pc := 64) X dX3_bagOf_64 fl_X3_16 oc_13 (by decide) ?_
        refine r_iload_n (pc := 67) X dX3_bagOf_67 1 rfl rfl ?_
        refine r_iald (pc := 68) X dX3_bagOf_68 ar_13_2 (fun x15 => ?_)
        exact r_iret (pc := 69) X Z dX3_bagOf_69 rfl
      · refine r_ite (fun h2 => ?_) (fun h2 => ?_)
        · refine r_tabIn (pc := 15) (tgt := 70) (off := 55) X dX3_bagOf_15 h2 (by decide) (by decide) (by decide) (by decide) ?_
          refine r_aload_n (pc := 70) X dX3_bagOf_70 0 rfl rfl ?_
          refine r_geta (pc := 71) X dX3_bagOf_71 fl_X3_19 oc_13 (by decide) ?_
          refine r_iload_n (pc := 74) X dX3_bagOf_74 1 rfl rfl ?_
          refine r_iald (pc := 75) X dX3_bagOf_75 ar_13_3 (fun x14 => ?_)
          exact r_iret (pc := 76) X Z dX3_bagOf_76 rfl
        · refine r_ite (fun h3 => ?_) (fun h3 => ?_)
          · refine r_tabIn (pc := 15) (tgt := 77) (off := 62) X dX3_bagOf_15 h3 (by decide) (by decide) (by decide) (by decide) ?_
            refine r_aload_n (pc := 77) X dX3_bagOf_77 0 rfl rfl ?_
            refine r_geta (pc := 78) X dX3_bagOf_78 fl_X3_22 oc_13 (by decide) ?_
            refine r_iload_n (pc := 81) X dX3_bagOf_81 1 rfl rfl ?_
            refine r_iald (pc := 82) X dX3_bagOf_82 ar_13_4 (fun x12 => ?_)
            refine r_bipush (pc := 83) X dX3_bagOf_83 kb_9 ?_
            refine r_icmp_ge (pc := 85) (tgt := 97) X dX3_bagOf_85 (by decide) ?_ ?_
            · refine r_bipush (pc := 97) X dX3_bagOf_97 kb_m9 ?_
              exact r_iret (pc := 99) X Z dX3_bagOf_99 rfl
            · refine r_aload_n (pc := 88) X dX3_bagOf_88 0 rfl rfl ?_
              refine r_geta (pc := 89) X dX3_bagOf_89 fl_X3_22 oc_13 (by decide) ?_
              refine r_iload_n (pc := 92) X dX3_bagOf_92 1 rfl rfl ?_
              refine r_iald (pc := 93) X dX3_bagOf_93 ar_13_4 (fun x13 => ?_)
              refine r_goto (pc := 94) (tgt := 99) X dX3_bagOf_94 (by decide) ?_
              exact r_iret (pc := 99) X Z dX3_bagOf_99 rfl
          · refine r_ite (fun h4 => ?_) (fun h4 => ?_)
            · refine r_tabIn (pc := 15) (tgt := 100) (off := 85) X dX3_bagOf_15 h4 (by decide) (by decide) (by decide) (by decide) ?_
              refine r_aload_n (pc := 100) X dX3_bagOf_100 0 rfl rfl ?_
              refine r_geta (pc := 101) X dX3_bagOf_101 fl_X3_25 oc_13 (by decide) ?_
              refine r_iload_n (pc := 104) X dX3_bagOf_104 1 rfl rfl ?_
              refine r_iald (pc := 105) X dX3_bagOf_105 ar_13_5 (fun x11 => ?_)
              exact r_iret (pc := 106) X Z dX3_bagOf_106 rfl
            · refine r_ite (fun h5 => ?_) (fun h5 => ?_)
              · refine r_tabIn (pc := 15) (tgt := 107) (off := 92) X dX3_bagOf_15 h5 (by decide) (by decide) (by decide) (by decide) ?_
                refine r_aload_n (pc := 107) X dX3_bagOf_107 0 rfl rfl ?_
                refine r_iload_n (pc := 108) X dX3_bagOf_108 1 rfl rfl ?_
                refine r_callvp (pc := 109) X dX3_bagOf_109 cf_X3_whoHas ml_X3_188 (rf rfl rfl) hy oc_13.1 hc_3 (fun b hb => m_X3_whoHas hb) rfl rfl (Nat.le_of_ble_eq_true rfl) (fun x7 => ?_)
                refine r_bipush (pc := 112) X dX3_bagOf_112 kb_9 ?_
                refine r_icmp_ge (pc := 114) (tgt := 125) X dX3_bagOf_114 (by decide) ?_ ?_
                · refine r_bipush (pc := 125) X dX3_bagOf_125 kb_m9 ?_
                  exact r_iret (pc := 127) X Z dX3_bagOf_127 rfl
                · refine r_aload_n (pc := 117) X dX3_bagOf_117 0 rfl rfl ?_
                  refine r_iload_n (pc := 118) X dX3_bagOf_118 1 rfl rfl ?_
                  refine r_callvp (pc := 119) X dX3_bagOf_119 cf_X3_whoHas ml_X3_188 (rf rfl rfl) hy oc_13.1 hc_3 (fun b hb => m_X3_whoHas hb) rfl rfl (Nat.le_of_ble_eq_true rfl) (fun x9 => ?_)
                  refine r_goto (pc := 122) (tgt := 127) X dX3_bagOf_122 (by decide) ?_
                  exact r_iret (pc := 127) X Z dX3_bagOf_127 rfl
              · refine r_ite (fun h6 => ?_) (fun h6 => ?_)
                · refine r_tabIn (pc := 15) (tgt := 128) (off := 113) X dX3_bagOf_15 h6 (by decide) (by decide) (by decide) (by decide) ?_
                  refine r_aload_n (pc := 128) X dX3_bagOf_128 0 rfl rfl ?_
                  refine r_iload_n (pc := 129) X dX3_bagOf_129 1 rfl rfl ?_
                  refine r_callvp (pc := 130) X dX3_bagOf_130 cf_X3_pullOf ml_X3_198 (rf rfl rfl) hy oc_13.1 hc_3 (fun b hb => m_X3_pullOf hb) rfl rfl (Nat.le_of_ble_eq_true rfl) (fun x5 => ?_)
                  exact r_iret (pc := 133) X Z dX3_bagOf_133 rfl
                · refine r_tabOut (pc := 15) (tgt := 134) X dX3_bagOf_15 (tab_out [(0 : Int32), (1 : Int32), (2 : Int32), (3 : Int32), (4 : Int32), (5 : Int32), (6 : Int32)] (List.forall_mem_cons.mpr ⟨h0, List.forall_mem_cons.mpr ⟨h1, List.forall_mem_cons.mpr ⟨h2, List.forall_mem_cons.mpr ⟨h3, List.forall_mem_cons.mpr ⟨h4, List.forall_mem_cons.mpr ⟨h5, List.forall_mem_cons.mpr ⟨h6, List.forall_mem_nil _⟩⟩⟩⟩⟩⟩⟩) (by decide)) (by decide) ?_
                  refine r_aload_n (pc := 134) X dX3_bagOf_134 0 rfl rfl ?_
                  refine r_bipush (pc := 135) X dX3_bagOf_135 kb_m2 ?_
                  refine r_callvI (pc := 137) X dX3_bagOf_137 cf_X3_no ml_X3_102 (rf rfl rfl) hy oc_13.1 hc_3 (fun b hb => m_X3_no hb) rfl rfl (Nat.le_of_ble_eq_true rfl) (fun x3 σ4 => ?_)
                  exact r_iret (pc := 140) X Z dX3_bagOf_140 rfl
  · refine r_aload_n (pc := 8) X dX3_bagOf_8 0 rfl rfl ?_
    refine r_iconst (pc := 9) X dX3_bagOf_9 kc_m1 ?_
    refine r_callvI (pc := 10) X dX3_bagOf_10 cf_X3_no ml_X3_102 (rf rfl rfl) hy oc_13.1 hc_3 (fun b hb => m_X3_no hb) rfl rfl (Nat.le_of_ble_eq_true rfl) (fun x17 σ18 => ?_)
    exact r_iret (pc := 13) X Z dX3_bagOf_13 rfl

set_option maxRecDepth 100000 in
theorem m_X3_bagNow {y : LY} {l : Launch}  {a0 : Int32} {σ : ST} {a : Int32} (h : T_X3_bagNow σ a0 = some a) : MU y l yX3_bagNow cX3_bagNow 2 (some .int) (rmd 0) [.ref (ad y 13), .int a0] σ (xp σ a) := by
  refine MU.of (φ := xp σ) h (by decide +kernel) rfl (fun E X Z hy => ?_)
  have X : CX y l E cX3_bagNow 2 RX3 (rmd 0) := X
  show WW y l E 2 _ 0 [(0, .ref (ad y 13)), (1, .int a0)] [] σ (T_X3_bagNow σ a0)
  unfold T_X3_bagNow
  refine r_aload_n (pc := 0) X dX3_bagNow_0 0 rfl rfl ?_
  refine r_geta (pc := 1) X dX3_bagNow_1 fl_X3_37 oc_13 (by decide) ?_
  refine r_iload_n (pc := 4) X dX3_bagNow_4 1 rfl rfl ?_
  refine r_iald (pc := 5) X dX3_bagNow_5 ar_13_9 (fun x1 => ?_)
  refine r_bipush (pc := 6) X dX3_bagNow_6 kb_9 ?_
  refine r_icmp_ge (pc := 8) (tgt := 20) X dX3_bagNow_8 (by decide) ?_ ?_
  · refine r_bipush (pc := 20) X dX3_bagNow_20 kb_m9 ?_
    exact r_iret (pc := 22) X Z dX3_bagNow_22 rfl
  · refine r_aload_n (pc := 11) X dX3_bagNow_11 0 rfl rfl ?_
    refine r_geta (pc := 12) X dX3_bagNow_12 fl_X3_37 oc_13 (by decide) ?_
    refine r_iload_n (pc := 15) X dX3_bagNow_15 1 rfl rfl ?_
    refine r_iald (pc := 16) X dX3_bagNow_16 ar_13_9 (fun x2 => ?_)
    refine r_goto (pc := 17) (tgt := 22) X dX3_bagNow_17 (by decide) ?_
    exact r_iret (pc := 22) X Z dX3_bagNow_22 rfl

set_option maxRecDepth 100000 in
theorem m_X3_bearerOf {y : LY} {l : Launch}  {a0 : Int32} {a1 : Int32} {σ : ST} {a : (Int32 × ST)} (h : T_X3_bearerOf a0 a1 σ = some a) : MU y l yX3_bearerOf cX3_bearerOf 3 (some .int) (rmd 4) [.ref (ad y 13), .int a0, .int a1] σ (xI a) := by
  refine MU.of (φ := xI) h (by decide +kernel) rfl (fun E X Z hy => ?_)
  have X : CX y l E cX3_bearerOf 3 RX3 (rmd 4) := X
  show WW y l E 3 _ 0 [(0, .ref (ad y 13)), (1, .int a0), (2, .int a1)] [] σ (T_X3_bearerOf a0 a1 σ)
  unfold T_X3_bearerOf
  refine r_aload_n (pc := 0) X dX3_bearerOf_0 0 rfl rfl ?_
  refine r_iload_n (pc := 1) X dX3_bearerOf_1 1 rfl rfl ?_
  refine r_callvp (pc := 2) X dX3_bearerOf_2 cf_X3_isBearer ml_X3_91 (rf rfl rfl) hy oc_13.1 hc_3 (fun b hb => m_X3_isBearer hb) rfl rfl (Nat.le_of_ble_eq_true rfl) (fun x1 => ?_)
  refine r_if_ne (pc := 5) (tgt := 14) X dX3_bearerOf_5 (by decide) ?_ ?_
  · refine r_iload_n (pc := 14) X dX3_bearerOf_14 2 rfl rfl ?_
    refine r_ite (fun h0 => ?_) (fun h0 => ?_)
    · refine r_tabIn (pc := 15) (tgt := 52) (off := 37) X dX3_bearerOf_15 h0 (by decide) (by decide) (by decide) (by decide) ?_
      refine r_aload_n (pc := 52) X dX3_bearerOf_52 0 rfl rfl ?_
      refine r_geta (pc := 53) X dX3_bearerOf_53 fl_X3_28 oc_13 (by decide) ?_
      refine r_iload_n (pc := 56) X dX3_bearerOf_56 1 rfl rfl ?_
      refine r_iald (pc := 57) X dX3_bearerOf_57 ar_13_6 (fun x12 => ?_)
      exact r_iret (pc := 58) X Z dX3_bearerOf_58 rfl
    · refine r_ite (fun h1 => ?_) (fun h1 => ?_)
      · refine r_tabIn (pc := 15) (tgt := 59) (off := 44) X dX3_bearerOf_15 h1 (by decide) (by decide) (by decide) (by decide) ?_
        refine r_aload_n (pc := 59) X dX3_bearerOf_59 0 rfl rfl ?_
        refine r_geta (pc := 60) X dX3_bearerOf_60 fl_X3_31 oc_13 (by decide) ?_
        refine r_iload_n (pc := 63) X dX3_bearerOf_63 1 rfl rfl ?_
        refine r_iald (pc := 64) X dX3_bearerOf_64 ar_13_7 (fun x11 => ?_)
        exact r_iret (pc := 65) X Z dX3_bearerOf_65 rfl
      · refine r_ite (fun h2 => ?_) (fun h2 => ?_)
        · refine r_tabIn (pc := 15) (tgt := 66) (off := 51) X dX3_bearerOf_15 h2 (by decide) (by decide) (by decide) (by decide) ?_
          refine r_aload_n (pc := 66) X dX3_bearerOf_66 0 rfl rfl ?_
          refine r_geta (pc := 67) X dX3_bearerOf_67 fl_X3_34 oc_13 (by decide) ?_
          refine r_iload_n (pc := 70) X dX3_bearerOf_70 1 rfl rfl ?_
          refine r_iald (pc := 71) X dX3_bearerOf_71 ar_13_8 (fun x10 => ?_)
          exact r_iret (pc := 72) X Z dX3_bearerOf_72 rfl
        · refine r_ite (fun h3 => ?_) (fun h3 => ?_)
          · refine r_tabIn (pc := 15) (tgt := 73) (off := 58) X dX3_bearerOf_15 h3 (by decide) (by decide) (by decide) (by decide) ?_
            refine r_aload_n (pc := 73) X dX3_bearerOf_73 0 rfl rfl ?_
            refine r_iload_n (pc := 74) X dX3_bearerOf_74 1 rfl rfl ?_
            refine r_callvp (pc := 75) X dX3_bearerOf_75 cf_X3_bagNow ml_X3_220 (rf rfl rfl) hy oc_13.1 hc_3 (fun b hb => m_X3_bagNow hb) rfl rfl (Nat.le_of_ble_eq_true rfl) (fun x8 => ?_)
            exact r_iret (pc := 78) X Z dX3_bearerOf_78 rfl
          · refine r_ite (fun h4 => ?_) (fun h4 => ?_)
            · refine r_tabIn (pc := 15) (tgt := 79) (off := 64) X dX3_bearerOf_15 h4 (by decide) (by decide) (by decide) (by decide) ?_
              refine r_aload_n (pc := 79) X dX3_bearerOf_79 0 rfl rfl ?_
              refine r_geta (pc := 80) X dX3_bearerOf_80 fl_X3_40 oc_13 (by decide) ?_
              refine r_iload_n (pc := 83) X dX3_bearerOf_83 1 rfl rfl ?_
              refine r_iald (pc := 84) X dX3_bearerOf_84 ar_13_10 (fun x7 => ?_)
              exact r_iret (pc := 85) X Z dX3_bearerOf_85 rfl
            · refine r_ite (fun h5 => ?_) (fun h5 => ?_)
              · refine r_tabIn (pc := 15) (tgt := 86) (off := 71) X dX3_bearerOf_15 h5 (by decide) (by decide) (by decide) (by decide) ?_
                refine r_aload_n (pc := 86) X dX3_bearerOf_86 0 rfl rfl ?_
                refine r_iload_n (pc := 87) X dX3_bearerOf_87 1 rfl rfl ?_
                refine r_callvp (pc := 88) X dX3_bearerOf_88 cf_X3_isLed ml_X3_208 (rf rfl rfl) hy oc_13.1 hc_3 (fun b hb => m_X3_isLed hb) rfl rfl (Nat.le_of_ble_eq_true rfl) (fun x5 => ?_)
                refine r_if_eq (pc := 91) (tgt := 98) X dX3_bearerOf_91 (by decide) ?_ ?_
                · refine r_iconst (pc := 98) X dX3_bearerOf_98 kc_0 ?_
                  exact r_iret (pc := 99) X Z dX3_bearerOf_99 rfl
                · refine r_iconst (pc := 94) X dX3_bearerOf_94 kc_1 ?_
                  refine r_goto (pc := 95) (tgt := 99) X dX3_bearerOf_95 (by decide) ?_
                  exact r_iret (pc := 99) X Z dX3_bearerOf_99 rfl
              · refine r_tabOut (pc := 15) (tgt := 100) X dX3_bearerOf_15 (tab_out [(0 : Int32), (1 : Int32), (2 : Int32), (3 : Int32), (4 : Int32), (5 : Int32)] (List.forall_mem_cons.mpr ⟨h0, List.forall_mem_cons.mpr ⟨h1, List.forall_mem_cons.mpr ⟨h2, List.forall_mem_cons.mpr ⟨h3, List.forall_mem_cons.mpr ⟨h4, List.forall_mem_cons.mpr ⟨h5, List.forall_mem_nil _⟩⟩⟩⟩⟩⟩) (by decide)) (by decide) ?_
                refine r_aload_n (pc := 100) X dX3_bearerOf_100 0 rfl rfl ?_
                refine r_bipush (pc := 101) X dX3_bearerOf_101 kb_m2 ?_
                refine r_callvI (pc := 103) X dX3_bearerOf_103 cf_X3_no ml_X3_102 (rf rfl rfl) hy oc_13.1 hc_3 (fun b hb => m_X3_no hb) rfl rfl (Nat.le_of_ble_eq_true rfl) (fun x3 σ4 => ?_)
                exact r_iret (pc := 106) X Z dX3_bearerOf_106 rfl
  · refine r_aload_n (pc := 8) X dX3_bearerOf_8 0 rfl rfl ?_
    refine r_iconst (pc := 9) X dX3_bearerOf_9 kc_m1 ?_
    refine r_callvI (pc := 10) X dX3_bearerOf_10 cf_X3_no ml_X3_102 (rf rfl rfl) hy oc_13.1 hc_3 (fun b hb => m_X3_no hb) rfl rfl (Nat.le_of_ble_eq_true rfl) (fun x13 σ14 => ?_)
    exact r_iret (pc := 13) X Z dX3_bearerOf_13 rfl

set_option maxRecDepth 100000 in
theorem s_X3_bag_j54 {y : LY} {l : Launch} {E : ET} (X : CX y l E cX3_bag 5 RX3 (rmd 1)) (Z : ZX E (some .int)) (hy : y.1 ≤ (eS E).heap.size)     (v1 : Int32) (v2 : Int32) (v3 : Int32) (s0 : Int32) (σ : ST) : WW y l E 5 (fun a => QM y E (xI a)) 54 [(0, .ref (ad y 13)), (1, .int v1), (2, .int v2), (3, .int v3)] [.int s0] σ (T_X3_bag_j54   v1 v2 v3 s0 σ) := by
  unfold T_X3_bag_j54
  refine r_istore (pc := 54) (lv' := [(4, .int _), (0, .ref _), (1, .int _), (2, .int _), (3, .int _)]) X dX3_bag_54 (by decide) rfl ?_
  refine r_iload (pc := 56) X dX3_bag_56 0 rfl ?_
  refine r_if_eq (pc := 58) (tgt := 68) X dX3_bag_58 (by decide) ?_ ?_
  · refine r_aload_n (pc := 68) X dX3_bag_68 1 rfl rfl ?_
    refine r_iconst (pc := 69) X dX3_bag_69 kc_0 ?_
    refine r_puti (pc := 70) X dX3_bag_70 fl_X3_168 fw_3_26 oc_13 rfl (fun σ1 => ?_)
    refine r_aload_n (pc := 73) X dX3_bag_73 1 rfl rfl ?_
    refine r_iload_n (pc := 74) X dX3_bag_74 2 rfl rfl ?_
    refine r_iload_n (pc := 75) X dX3_bag_75 3 rfl rfl ?_
    refine r_iload_n (pc := 76) X dX3_bag_76 4 rfl rfl ?_
    refine r_callvV (pc := 77) X dX3_bag_77 cf_X3_addsBag ml_X3_134 (rf rfl rfl) hy oc_13.1 hc_3 (fun b hb => m_X3_addsBag hb) rfl rfl (Nat.le_of_ble_eq_true rfl) (fun σ3 => ?_)
    refine r_aload_n (pc := 80) X dX3_bag_80 1 rfl rfl ?_
    refine r_geti (pc := 81) X dX3_bag_81 fl_X3_83 oc_13 rfl (fun x4 => ?_)
    refine r_iconst (pc := 84) X dX3_bag_84 kc_1 ?_
    refine r_isub (pc := 85) X dX3_bag_85 ?_
    exact r_iret (pc := 86) X Z dX3_bag_86 rfl
  · refine r_aload_n (pc := 61) X dX3_bag_61 1 rfl rfl ?_
    refine r_iload (pc := 62) X dX3_bag_62 0 rfl ?_
    refine r_callvI (pc := 64) X dX3_bag_64 cf_X3_no ml_X3_102 (rf rfl rfl) hy oc_13.1 hc_3 (fun b hb => m_X3_no hb) rfl rfl (Nat.le_of_ble_eq_true rfl) (fun x5 σ6 => ?_)
    exact r_iret (pc := 67) X Z dX3_bag_67 rfl

set_option maxRecDepth 100000 in
theorem s_X3_bag_j22 {y : LY} {l : Launch} {E : ET} (X : CX y l E cX3_bag 5 RX3 (rmd 1)) (Z : ZX E (some .int)) (hy : y.1 ≤ (eS E).heap.size)     (v1 : Int32) (v2 : Int32) (v3 : Int32) (σ : ST) : WW y l E 5 (fun a => QM y E (xI a)) 22 [(0, .ref (ad y 13)), (1, .int v1), (2, .int v2), (3, .int v3)] [] σ (T_X3_bag_j22   v1 v2 v3 σ) := by
  unfold T_X3_bag_j22
  refine r_bipush (pc := 22) X dX3_bag_22 kb_m4 ?_
  refine r_goto (pc := 24) (tgt := 54) X dX3_bag_24 (by decide) ?_
  exact s_X3_bag_j54 X Z hy v1 v2 v3 ((-4)) σ

set_option maxRecDepth 100000 in
theorem s_X3_bag_j48 {y : LY} {l : Launch} {E : ET} (X : CX y l E cX3_bag 5 RX3 (rmd 1)) (Z : ZX E (some .int)) (hy : y.1 ≤ (eS E).heap.size)     (v1 : Int32) (v2 : Int32) (v3 : Int32) (σ : ST) : WW y l E 5 (fun a => QM y E (xI a)) 48 [(0, .ref (ad y 13)), (1, .int v1), (2, .int v2), (3, .int v3)] [] σ (T_X3_bag_j48   v1 v2 v3 σ) := by
  unfold T_X3_bag_j48
  refine r_bipush (pc := 48) X dX3_bag_48 kb_m6 ?_
  refine r_goto (pc := 50) (tgt := 54) X dX3_bag_50 (by decide) ?_
  exact s_X3_bag_j54 X Z hy v1 v2 v3 ((-6)) σ

set_option maxRecDepth 100000 in
theorem m_X3_bag {y : LY} {l : Launch}  {a0 : Int32} {a1 : Int32} {a2 : Int32} {σ : ST} {a : (Int32 × ST)} (h : T_X3_bag a0 a1 a2 σ = some a) : MU y l yX3_bag cX3_bag 5 (some .int) (rmd 1) [.ref (ad y 13), .int a0, .int a1, .int a2] σ (xI a) := by
  refine MU.of (φ := xI) h (by decide +kernel) rfl (fun E X Z hy => ?_)
  have X : CX y l E cX3_bag 5 RX3 (rmd 1) := X
  show WW y l E 5 _ 0 [(0, .ref (ad y 13)), (1, .int a0), (2, .int a1), (3, .int a2)] [] σ (T_X3_bag a0 a1 a2 σ)
  unfold T_X3_bag
  refine r_iload_n (pc := 0) X dX3_bag_0 1 rfl rfl ?_
  refine r_iconst (pc := 1) X dX3_bag_1 kc_0 ?_
  refine r_iconst (pc := 2) X dX3_bag_2 kc_5 ?_
  refine r_callsp (pc := 3) X dX3_bag_3 cf_X3_isIn ml_X3_113 (rf rfl rfl) hy (fun b hb => m_X3_isIn hb) rfl rfl (Nat.le_of_ble_eq_true rfl) (fun x1 => ?_)
  refine r_if_ne (pc := 6) (tgt := 14) X dX3_bag_6 (by decide) ?_ ?_
  · refine r_iload_n (pc := 14) X dX3_bag_14 2 rfl rfl ?_
    refine r_if_lt (pc := 15) (tgt := 22) X dX3_bag_15 (by decide) ?_ ?_
    · exact s_X3_bag_j22 X Z hy a0 a1 a2 σ
    · refine r_iload_n (pc := 18) X dX3_bag_18 3 rfl rfl ?_
      refine r_if_ge (pc := 19) (tgt := 27) X dX3_bag_19 (by decide) ?_ ?_
      · refine r_iload_n (pc := 27) X dX3_bag_27 2 rfl rfl ?_
        refine r_bipush (pc := 28) X dX3_bag_28 kb_9 ?_
        refine r_icmp_gt (pc := 30) (tgt := 48) X dX3_bag_30 (by decide) ?_ ?_
        · exact s_X3_bag_j48 X Z hy a0 a1 a2 σ
        · refine r_iload_n (pc := 33) X dX3_bag_33 3 rfl rfl ?_
          refine r_bipush (pc := 34) X dX3_bag_34 kb_9 ?_
          refine r_icmp_gt (pc := 36) (tgt := 48) X dX3_bag_36 (by decide) ?_ ?_
          · exact s_X3_bag_j48 X Z hy a0 a1 a2 σ
          · refine r_aload_n (pc := 39) X dX3_bag_39 0 rfl rfl ?_
            refine r_geti (pc := 40) X dX3_bag_40 fl_X3_83 oc_13 rfl (fun x3 => ?_)
            refine r_bipush (pc := 43) X dX3_bag_43 kb_6 ?_
            refine r_icmp_ne (pc := 45) (tgt := 53) X dX3_bag_45 (by decide) ?_ ?_
            · refine r_iconst (pc := 53) X dX3_bag_53 kc_0 ?_
              exact s_X3_bag_j54 X Z hy a0 a1 a2 0 σ
            · exact s_X3_bag_j48 X Z hy a0 a1 a2 σ
      · exact s_X3_bag_j22 X Z hy a0 a1 a2 σ
  · refine r_bipush (pc := 9) X dX3_bag_9 kb_m2 ?_
    refine r_goto (pc := 11) (tgt := 54) X dX3_bag_11 (by decide) ?_
    exact s_X3_bag_j54 X Z hy a0 a1 a2 ((-2)) σ

set_option maxRecDepth 100000 in
theorem s_X3_bearer_j49 {y : LY} {l : Launch} {E : ET} (X : CX y l E cX3_bearer 5 RX3 (rmd 1)) (Z : ZX E (some .int)) (hy : y.1 ≤ (eS E).heap.size)     (v1 : Int32) (v2 : Int32) (v3 : Int32) (s0 : Int32) (σ : ST) : WW y l E 5 (fun a => QM y E (xI a)) 49 [(0, .ref (ad y 13)), (1, .int v1), (2, .int v2), (3, .int v3)] [.int s0] σ (T_X3_bearer_j49   v1 v2 v3 s0 σ) := by
  unfold T_X3_bearer_j49
  refine r_istore (pc := 49) (lv' := [(4, .int _), (0, .ref _), (1, .int _), (2, .int _), (3, .int _)]) X dX3_bearer_49 (by decide) rfl ?_
  refine r_iload (pc := 51) X dX3_bearer_51 0 rfl ?_
  refine r_if_eq (pc := 53) (tgt := 63) X dX3_bearer_53 (by decide) ?_ ?_
  · refine r_aload_n (pc := 63) X dX3_bearer_63 1 rfl rfl ?_
    refine r_iconst (pc := 64) X dX3_bearer_64 kc_0 ?_
    refine r_puti (pc := 65) X dX3_bearer_65 fl_X3_168 fw_3_26 oc_13 rfl (fun σ1 => ?_)
    refine r_aload_n (pc := 68) X dX3_bearer_68 1 rfl rfl ?_
    refine r_iload_n (pc := 69) X dX3_bearer_69 2 rfl rfl ?_
    refine r_iload_n (pc := 70) X dX3_bearer_70 3 rfl rfl ?_
    refine r_iload_n (pc := 71) X dX3_bearer_71 4 rfl rfl ?_
    refine r_callvV (pc := 72) X dX3_bearer_72 cf_X3_addsBearer ml_X3_138 (rf rfl rfl) hy oc_13.1 hc_3 (fun b hb => m_X3_addsBearer hb) rfl rfl (Nat.le_of_ble_eq_true rfl) (fun σ3 => ?_)
    refine r_aload_n (pc := 75) X dX3_bearer_75 1 rfl rfl ?_
    refine r_geti (pc := 76) X dX3_bearer_76 fl_X3_88 oc_13 rfl (fun x4 => ?_)
    refine r_iconst (pc := 79) X dX3_bearer_79 kc_1 ?_
    refine r_isub (pc := 80) X dX3_bearer_80 ?_
    exact r_iret (pc := 81) X Z dX3_bearer_81 rfl
  · refine r_aload_n (pc := 56) X dX3_bearer_56 1 rfl rfl ?_
    refine r_iload (pc := 57) X dX3_bearer_57 0 rfl ?_
    refine r_callvI (pc := 59) X dX3_bearer_59 cf_X3_no ml_X3_102 (rf rfl rfl) hy oc_13.1 hc_3 (fun b hb => m_X3_no hb) rfl rfl (Nat.le_of_ble_eq_true rfl) (fun x5 σ6 => ?_)
    exact r_iret (pc := 62) X Z dX3_bearer_62 rfl

set_option maxRecDepth 100000 in
theorem s_X3_bearer_j12 {y : LY} {l : Launch} {E : ET} (X : CX y l E cX3_bearer 5 RX3 (rmd 1)) (Z : ZX E (some .int)) (hy : y.1 ≤ (eS E).heap.size)     (v1 : Int32) (v2 : Int32) (v3 : Int32) (σ : ST) : WW y l E 5 (fun a => QM y E (xI a)) 12 [(0, .ref (ad y 13)), (1, .int v1), (2, .int v2), (3, .int v3)] [] σ (T_X3_bearer_j12   v1 v2 v3 σ) := by
  unfold T_X3_bearer_j12
  refine r_bipush (pc := 12) X dX3_bearer_12 kb_m4 ?_
  refine r_goto (pc := 14) (tgt := 49) X dX3_bearer_14 (by decide) ?_
  exact s_X3_bearer_j49 X Z hy v1 v2 v3 ((-4)) σ

set_option maxRecDepth 100000 in
theorem s_X3_bearer_j43 {y : LY} {l : Launch} {E : ET} (X : CX y l E cX3_bearer 5 RX3 (rmd 1)) (Z : ZX E (some .int)) (hy : y.1 ≤ (eS E).heap.size)     (v1 : Int32) (v2 : Int32) (v3 : Int32) (σ : ST) : WW y l E 5 (fun a => QM y E (xI a)) 43 [(0, .ref (ad y 13)), (1, .int v1), (2, .int v2), (3, .int v3)] [] σ (T_X3_bearer_j43   v1 v2 v3 σ) := by
  unfold T_X3_bearer_j43
  refine r_bipush (pc := 43) X dX3_bearer_43 kb_m6 ?_
  refine r_goto (pc := 45) (tgt := 49) X dX3_bearer_45 (by decide) ?_
  exact s_X3_bearer_j49 X Z hy v1 v2 v3 ((-6)) σ

set_option maxRecDepth 100000 in
theorem m_X3_bearer {y : LY} {l : Launch}  {a0 : Int32} {a1 : Int32} {a2 : Int32} {σ : ST} {a : (Int32 × ST)} (h : T_X3_bearer a0 a1 a2 σ = some a) : MU y l yX3_bearer cX3_bearer 5 (some .int) (rmd 1) [.ref (ad y 13), .int a0, .int a1, .int a2] σ (xI a) := by
  refine MU.of (φ := xI) h (by decide +kernel) rfl (fun E X Z hy => ?_)
  have X : CX y l E cX3_bearer 5 RX3 (rmd 1) := X
  show WW y l E 5 _ 0 [(0, .ref (ad y 13)), (1, .int a0), (2, .int a1), (3, .int a2)] [] σ (T_X3_bearer a0 a1 a2 σ)
  unfold T_X3_bearer
  refine r_iload_n (pc := 0) X dX3_bearer_0 1 rfl rfl ?_
  refine r_if_lt (pc := 1) (tgt := 12) X dX3_bearer_1 (by decide) ?_ ?_
  · exact s_X3_bearer_j12 X Z hy a0 a1 a2 σ
  · refine r_iload_n (pc := 4) X dX3_bearer_4 2 rfl rfl ?_
    refine r_if_lt (pc := 5) (tgt := 12) X dX3_bearer_5 (by decide) ?_ ?_
    · exact s_X3_bearer_j12 X Z hy a0 a1 a2 σ
    · refine r_iload_n (pc := 8) X dX3_bearer_8 3 rfl rfl ?_
      refine r_if_ge (pc := 9) (tgt := 17) X dX3_bearer_9 (by decide) ?_ ?_
      · refine r_iload_n (pc := 17) X dX3_bearer_17 1 rfl rfl ?_
        refine r_bipush (pc := 18) X dX3_bearer_18 kb_9 ?_
        refine r_icmp_gt (pc := 20) (tgt := 43) X dX3_bearer_20 (by decide) ?_ ?_
        · exact s_X3_bearer_j43 X Z hy a0 a1 a2 σ
        · refine r_iload_n (pc := 23) X dX3_bearer_23 2 rfl rfl ?_
          refine r_bipush (pc := 24) X dX3_bearer_24 kb_9 ?_
          refine r_icmp_gt (pc := 26) (tgt := 43) X dX3_bearer_26 (by decide) ?_ ?_
          · exact s_X3_bearer_j43 X Z hy a0 a1 a2 σ
          · refine r_iload_n (pc := 29) X dX3_bearer_29 3 rfl rfl ?_
            refine r_bipush (pc := 30) X dX3_bearer_30 kb_9 ?_
            refine r_icmp_gt (pc := 32) (tgt := 43) X dX3_bearer_32 (by decide) ?_ ?_
            · exact s_X3_bearer_j43 X Z hy a0 a1 a2 σ
            · refine r_aload_n (pc := 35) X dX3_bearer_35 0 rfl rfl ?_
              refine r_geti (pc := 36) X dX3_bearer_36 fl_X3_88 oc_13 rfl (fun x1 => ?_)
              refine r_iconst (pc := 39) X dX3_bearer_39 kc_5 ?_
              refine r_icmp_ne (pc := 40) (tgt := 48) X dX3_bearer_40 (by decide) ?_ ?_
              · refine r_iconst (pc := 48) X dX3_bearer_48 kc_0 ?_
                exact s_X3_bearer_j49 X Z hy a0 a1 a2 0 σ
              · exact s_X3_bearer_j43 X Z hy a0 a1 a2 σ
      · exact s_X3_bearer_j12 X Z hy a0 a1 a2 σ

set_option maxRecDepth 100000 in
theorem s_X3_gives_j16 {y : LY} {l : Launch} {E : ET} (X : CX y l E cX3_gives 4 RX3 (rmd 3)) (Z : ZX E (some .int)) (hy : y.1 ≤ (eS E).heap.size)     (σ : ST) : WW y l E 4 (fun a => QM y E (xI a)) 16 [(0, .ref (ad y 13))] [] σ (T_X3_gives_j16   σ) := by
  unfold T_X3_gives_j16
  refine r_aload_n (pc := 16) X dX3_gives_16 0 rfl rfl ?_
  refine r_iconst (pc := 17) X dX3_gives_17 kc_m1 ?_
  refine r_callvI (pc := 18) X dX3_gives_18 cf_X3_no ml_X3_102 (rf rfl rfl) hy oc_13.1 hc_3 (fun b hb => m_X3_no hb) rfl rfl (Nat.le_of_ble_eq_true rfl) (fun x1 σ2 => ?_)
  exact r_iret (pc := 21) X Z dX3_gives_21 rfl

set_option maxRecDepth 100000 in
theorem m_X3_gives {y : LY} {l : Launch}  {a0 : Int32} {a1 : Int32} {σ : ST} {a : (Int32 × ST)} (h : T_X3_gives a0 a1 σ = some a) : MU y l yX3_gives cX3_gives 4 (some .int) (rmd 3) [.ref (ad y 13), .int a0, .int a1] σ (xI a) := by
  refine MU.of (φ := xI) h (by decide +kernel) rfl (fun E X Z hy => ?_)
  have X : CX y l E cX3_gives 4 RX3 (rmd 3) := X
  show WW y l E 4 _ 0 [(0, .ref (ad y 13)), (1, .int a0), (2, .int a1)] [] σ (T_X3_gives a0 a1 σ)
  unfold T_X3_gives
  refine r_aload_n (pc := 0) X dX3_gives_0 0 rfl rfl ?_
  refine r_iload_n (pc := 1) X dX3_gives_1 1 rfl rfl ?_
  refine r_callvp (pc := 2) X dX3_gives_2 cf_X3_isBag ml_X3_141 (rf rfl rfl) hy oc_13.1 hc_3 (fun b hb => m_X3_isBag hb) rfl rfl (Nat.le_of_ble_eq_true rfl) (fun x1 => ?_)
  refine r_if_eq (pc := 5) (tgt := 16) X dX3_gives_5 (by decide) ?_ ?_
  · refine r_sub [0] rfl ?_
    exact s_X3_gives_j16 X Z hy σ
  · refine r_aload_n (pc := 8) X dX3_gives_8 0 rfl rfl ?_
    refine r_iload_n (pc := 9) X dX3_gives_9 2 rfl rfl ?_
    refine r_callvp (pc := 10) X dX3_gives_10 cf_X3_isBearer ml_X3_91 (rf rfl rfl) hy oc_13.1 hc_3 (fun b hb => m_X3_isBearer hb) rfl rfl (Nat.le_of_ble_eq_true rfl) (fun x3 => ?_)
    refine r_if_ne (pc := 13) (tgt := 22) X dX3_gives_13 (by decide) ?_ ?_
    · refine r_aload_n (pc := 22) X dX3_gives_22 0 rfl rfl ?_
      refine r_callvV (pc := 23) X dX3_gives_23 cf_X3_keepsBack ml_X3_223 (rf rfl rfl) hy oc_13.1 hc_3 (fun b hb => m_X3_keepsBack hb) rfl rfl (Nat.le_of_ble_eq_true rfl) (fun σ6 => ?_)
      refine r_aload_n (pc := 26) X dX3_gives_26 0 rfl rfl ?_
      refine r_iload_n (pc := 27) X dX3_gives_27 2 rfl rfl ?_
      refine r_callvp (pc := 28) X dX3_gives_28 cf_X3_bagNow ml_X3_220 (rf rfl rfl) hy oc_13.1 hc_3 (fun b hb => m_X3_bagNow hb) rfl rfl (Nat.le_of_ble_eq_true rfl) (fun x7 => ?_)
      refine r_istore_n (pc := 31) (lv' := [(3, .int _), (0, .ref _), (1, .int _), (2, .int _)]) X dX3_gives_31 rfl (by decide) rfl ?_
      refine r_aload_n (pc := 32) X dX3_gives_32 1 rfl rfl ?_
      refine r_iload_n (pc := 33) X dX3_gives_33 2 rfl rfl ?_
      refine r_iload_n (pc := 34) X dX3_gives_34 3 rfl rfl ?_
      refine r_callvV (pc := 35) X dX3_gives_35 cf_X3_givesHer ml_X3_144 (rf rfl rfl) hy oc_13.1 hc_3 (fun b hb => m_X3_givesHer hb) rfl rfl (Nat.le_of_ble_eq_true rfl) (fun σ10 => ?_)
      refine r_iload_n (pc := 38) X dX3_gives_38 0 rfl rfl ?_
      exact r_iret (pc := 39) X Z dX3_gives_39 rfl
    · refine r_sub [0] rfl ?_
      exact s_X3_gives_j16 X Z hy σ

set_option maxRecDepth 100000 in
theorem s_X3_friends_j16 {y : LY} {l : Launch} {E : ET} (X : CX y l E cX3_friends 3 RX3 (rmd 2)) (Z : ZX E (some .int)) (hy : y.1 ≤ (eS E).heap.size)     (σ : ST) : WW y l E 3 (fun a => QM y E (xI a)) 16 [(0, .ref (ad y 13))] [] σ (T_X3_friends_j16   σ) := by
  unfold T_X3_friends_j16
  refine r_aload_n (pc := 16) X dX3_friends_16 0 rfl rfl ?_
  refine r_iconst (pc := 17) X dX3_friends_17 kc_m1 ?_
  refine r_callvI (pc := 18) X dX3_friends_18 cf_X3_no ml_X3_102 (rf rfl rfl) hy oc_13.1 hc_3 (fun b hb => m_X3_no hb) rfl rfl (Nat.le_of_ble_eq_true rfl) (fun x1 σ2 => ?_)
  exact r_iret (pc := 21) X Z dX3_friends_21 rfl

set_option maxRecDepth 100000 in
theorem m_X3_friends {y : LY} {l : Launch}  {a0 : Int32} {a1 : Int32} {σ : ST} {a : (Int32 × ST)} (h : T_X3_friends a0 a1 σ = some a) : MU y l yX3_friends cX3_friends 3 (some .int) (rmd 2) [.ref (ad y 13), .int a0, .int a1] σ (xI a) := by
  refine MU.of (φ := xI) h (by decide +kernel) rfl (fun E X Z hy => ?_)
  have X : CX y l E cX3_friends 3 RX3 (rmd 2) := X
  show WW y l E 3 _ 0 [(0, .ref (ad y 13)), (1, .int a0), (2, .int a1)] [] σ (T_X3_friends a0 a1 σ)
  unfold T_X3_friends
  refine r_aload_n (pc := 0) X dX3_friends_0 0 rfl rfl ?_
  refine r_iload_n (pc := 1) X dX3_friends_1 1 rfl rfl ?_
  refine r_callvp (pc := 2) X dX3_friends_2 cf_X3_isBag ml_X3_141 (rf rfl rfl) hy oc_13.1 hc_3 (fun b hb => m_X3_isBag hb) rfl rfl (Nat.le_of_ble_eq_true rfl) (fun x1 => ?_)
  refine r_if_eq (pc := 5) (tgt := 16) X dX3_friends_5 (by decide) ?_ ?_
  · refine r_sub [0] rfl ?_
    exact s_X3_friends_j16 X Z hy σ
  · refine r_aload_n (pc := 8) X dX3_friends_8 0 rfl rfl ?_
    refine r_iload_n (pc := 9) X dX3_friends_9 2 rfl rfl ?_
    refine r_callvp (pc := 10) X dX3_friends_10 cf_X3_isBag ml_X3_141 (rf rfl rfl) hy oc_13.1 hc_3 (fun b hb => m_X3_isBag hb) rfl rfl (Nat.le_of_ble_eq_true rfl) (fun x3 => ?_)
    refine r_if_ne (pc := 13) (tgt := 22) X dX3_friends_13 (by decide) ?_ ?_
    · refine r_aload_n (pc := 22) X dX3_friends_22 0 rfl rfl ?_
      refine r_iconst (pc := 23) X dX3_friends_23 kc_0 ?_
      refine r_puti (pc := 24) X dX3_friends_24 fl_X3_168 fw_3_26 oc_13 rfl (fun σ5 => ?_)
      refine r_aload_n (pc := 27) X dX3_friends_27 0 rfl rfl ?_
      refine r_iload_n (pc := 28) X dX3_friends_28 1 rfl rfl ?_
      refine r_iload_n (pc := 29) X dX3_friends_29 2 rfl rfl ?_
      refine r_callvV (pc := 30) X dX3_friends_30 cf_X3_befriends ml_X3_148 (rf rfl rfl) hy oc_13.1 hc_3 (fun b hb => m_X3_befriends hb) rfl rfl (Nat.le_of_ble_eq_true rfl) (fun σ7 => ?_)
      refine r_iload_n (pc := 33) X dX3_friends_33 1 rfl rfl ?_
      refine r_iload_n (pc := 34) X dX3_friends_34 2 rfl rfl ?_
      refine r_icmp_ne (pc := 35) (tgt := 42) X dX3_friends_35 (by decide) ?_ ?_
      · refine r_iconst (pc := 42) X dX3_friends_42 kc_1 ?_
        exact r_iret (pc := 43) X Z dX3_friends_43 rfl
      · refine r_iconst (pc := 38) X dX3_friends_38 kc_0 ?_
        refine r_goto (pc := 39) (tgt := 43) X dX3_friends_39 (by decide) ?_
        exact r_iret (pc := 43) X Z dX3_friends_43 rfl
    · refine r_sub [0] rfl ?_
      exact s_X3_friends_j16 X Z hy σ

set_option maxRecDepth 100000 in
theorem s_X3_wants_j15 {y : LY} {l : Launch} {E : ET} (X : CX y l E cX3_wants 4 RX3 (rmd 3)) (Z : ZX E (some .int)) (hy : y.1 ≤ (eS E).heap.size)     (σ : ST) : WW y l E 4 (fun a => QM y E (xI a)) 15 [(0, .ref (ad y 13))] [] σ (T_X3_wants_j15   σ) := by
  unfold T_X3_wants_j15
  refine r_aload_n (pc := 15) X dX3_wants_15 0 rfl rfl ?_
  refine r_iconst (pc := 16) X dX3_wants_16 kc_m1 ?_
  refine r_callvI (pc := 17) X dX3_wants_17 cf_X3_no ml_X3_102 (rf rfl rfl) hy oc_13.1 hc_3 (fun b hb => m_X3_no hb) rfl rfl (Nat.le_of_ble_eq_true rfl) (fun x1 σ2 => ?_)
  exact r_iret (pc := 20) X Z dX3_wants_20 rfl

set_option maxRecDepth 100000 in
theorem m_X3_wants {y : LY} {l : Launch}  {a0 : Int32} {a1 : Int32} {σ : ST} {a : (Int32 × ST)} (h : T_X3_wants a0 a1 σ = some a) : MU y l yX3_wants cX3_wants 4 (some .int) (rmd 3) [.ref (ad y 13), .int a0, .int a1] σ (xI a) := by
  refine MU.of (φ := xI) h (by decide +kernel) rfl (fun E X Z hy => ?_)
  have X : CX y l E cX3_wants 4 RX3 (rmd 3) := X
  show WW y l E 4 _ 0 [(0, .ref (ad y 13)), (1, .int a0), (2, .int a1)] [] σ (T_X3_wants a0 a1 σ)
  unfold T_X3_wants
  refine r_aload_n (pc := 0) X dX3_wants_0 0 rfl rfl ?_
  refine r_iload_n (pc := 1) X dX3_wants_1 1 rfl rfl ?_
  refine r_callvp (pc := 2) X dX3_wants_2 cf_X3_isBearer ml_X3_91 (rf rfl rfl) hy oc_13.1 hc_3 (fun b hb => m_X3_isBearer hb) rfl rfl (Nat.le_of_ble_eq_true rfl) (fun x1 => ?_)
  refine r_if_eq (pc := 5) (tgt := 15) X dX3_wants_5 (by decide) ?_ ?_
  · refine r_sub [0] rfl ?_
    exact s_X3_wants_j15 X Z hy σ
  · refine r_iload_n (pc := 8) X dX3_wants_8 2 rfl rfl ?_
    refine r_callsp (pc := 9) X dX3_wants_9 cf_X3_isPlace ml_X3_226 (rf rfl rfl) hy (fun b hb => m_X3_isPlace hb) rfl rfl (Nat.le_of_ble_eq_true rfl) (fun x3 => ?_)
    refine r_if_ne (pc := 12) (tgt := 21) X dX3_wants_12 (by decide) ?_ ?_
    · refine r_aload_n (pc := 21) X dX3_wants_21 0 rfl rfl ?_
      refine r_callvV (pc := 22) X dX3_wants_22 cf_X3_keepsBack ml_X3_223 (rf rfl rfl) hy oc_13.1 hc_3 (fun b hb => m_X3_keepsBack hb) rfl rfl (Nat.le_of_ble_eq_true rfl) (fun σ6 => ?_)
      refine r_aload_n (pc := 25) X dX3_wants_25 0 rfl rfl ?_
      refine r_geta (pc := 26) X dX3_wants_26 fl_X3_31 oc_13 (by decide) ?_
      refine r_iload_n (pc := 29) X dX3_wants_29 1 rfl rfl ?_
      refine r_iald (pc := 30) X dX3_wants_30 ar_13_7 (fun x7 => ?_)
      refine r_istore_n (pc := 31) (lv' := [(3, .int _), (0, .ref _), (1, .int _), (2, .int _)]) X dX3_wants_31 rfl (by decide) rfl ?_
      refine r_aload_n (pc := 32) X dX3_wants_32 1 rfl rfl ?_
      refine r_geta (pc := 33) X dX3_wants_33 fl_X3_31 oc_13 (by decide) ?_
      refine r_iload_n (pc := 36) X dX3_wants_36 2 rfl rfl ?_
      refine r_iload_n (pc := 37) X dX3_wants_37 3 rfl rfl ?_
      refine r_iast (pc := 38) X dX3_wants_38 ar_13_7 (fun σ8 => ?_)
      refine r_iload_n (pc := 39) X dX3_wants_39 0 rfl rfl ?_
      exact r_iret (pc := 40) X Z dX3_wants_40 rfl
    · refine r_sub [0] rfl ?_
      exact s_X3_wants_j15 X Z hy σ

set_option maxRecDepth 100000 in
theorem s_X3_put_j15 {y : LY} {l : Launch} {E : ET} (X : CX y l E cX3_put 4 RX3 (rmd 3)) (Z : ZX E (some .int)) (hy : y.1 ≤ (eS E).heap.size)     (σ : ST) : WW y l E 4 (fun a => QM y E (xI a)) 15 [(0, .ref (ad y 13))] [] σ (T_X3_put_j15   σ) := by
  unfold T_X3_put_j15
  refine r_aload_n (pc := 15) X dX3_put_15 0 rfl rfl ?_
  refine r_iconst (pc := 16) X dX3_put_16 kc_m1 ?_
  refine r_callvI (pc := 17) X dX3_put_17 cf_X3_no ml_X3_102 (rf rfl rfl) hy oc_13.1 hc_3 (fun b hb => m_X3_no hb) rfl rfl (Nat.le_of_ble_eq_true rfl) (fun x1 σ2 => ?_)
  exact r_iret (pc := 20) X Z dX3_put_20 rfl

set_option maxRecDepth 100000 in
theorem m_X3_put {y : LY} {l : Launch}  {a0 : Int32} {a1 : Int32} {σ : ST} {a : (Int32 × ST)} (h : T_X3_put a0 a1 σ = some a) : MU y l yX3_put cX3_put 4 (some .int) (rmd 3) [.ref (ad y 13), .int a0, .int a1] σ (xI a) := by
  refine MU.of (φ := xI) h (by decide +kernel) rfl (fun E X Z hy => ?_)
  have X : CX y l E cX3_put 4 RX3 (rmd 3) := X
  show WW y l E 4 _ 0 [(0, .ref (ad y 13)), (1, .int a0), (2, .int a1)] [] σ (T_X3_put a0 a1 σ)
  unfold T_X3_put
  refine r_aload_n (pc := 0) X dX3_put_0 0 rfl rfl ?_
  refine r_iload_n (pc := 1) X dX3_put_1 1 rfl rfl ?_
  refine r_callvp (pc := 2) X dX3_put_2 cf_X3_isBearer ml_X3_91 (rf rfl rfl) hy oc_13.1 hc_3 (fun b hb => m_X3_isBearer hb) rfl rfl (Nat.le_of_ble_eq_true rfl) (fun x1 => ?_)
  refine r_if_eq (pc := 5) (tgt := 15) X dX3_put_5 (by decide) ?_ ?_
  · refine r_sub [0] rfl ?_
    exact s_X3_put_j15 X Z hy σ
  · refine r_iload_n (pc := 8) X dX3_put_8 2 rfl rfl ?_
    refine r_callsp (pc := 9) X dX3_put_9 cf_X3_isPlace ml_X3_226 (rf rfl rfl) hy (fun b hb => m_X3_isPlace hb) rfl rfl (Nat.le_of_ble_eq_true rfl) (fun x3 => ?_)
    refine r_if_ne (pc := 12) (tgt := 21) X dX3_put_12 (by decide) ?_ ?_
    · refine r_aload_n (pc := 21) X dX3_put_21 0 rfl rfl ?_
      refine r_callvV (pc := 22) X dX3_put_22 cf_X3_keepsBack ml_X3_223 (rf rfl rfl) hy oc_13.1 hc_3 (fun b hb => m_X3_keepsBack hb) rfl rfl (Nat.le_of_ble_eq_true rfl) (fun σ6 => ?_)
      refine r_aload_n (pc := 25) X dX3_put_25 0 rfl rfl ?_
      refine r_geta (pc := 26) X dX3_put_26 fl_X3_34 oc_13 (by decide) ?_
      refine r_iload_n (pc := 29) X dX3_put_29 1 rfl rfl ?_
      refine r_iald (pc := 30) X dX3_put_30 ar_13_8 (fun x7 => ?_)
      refine r_istore_n (pc := 31) (lv' := [(3, .int _), (0, .ref _), (1, .int _), (2, .int _)]) X dX3_put_31 rfl (by decide) rfl ?_
      refine r_aload_n (pc := 32) X dX3_put_32 1 rfl rfl ?_
      refine r_geta (pc := 33) X dX3_put_33 fl_X3_34 oc_13 (by decide) ?_
      refine r_iload_n (pc := 36) X dX3_put_36 2 rfl rfl ?_
      refine r_iload_n (pc := 37) X dX3_put_37 3 rfl rfl ?_
      refine r_iast (pc := 38) X dX3_put_38 ar_13_8 (fun σ8 => ?_)
      refine r_iload_n (pc := 39) X dX3_put_39 0 rfl rfl ?_
      exact r_iret (pc := 40) X Z dX3_put_40 rfl
    · refine r_sub [0] rfl ?_
      exact s_X3_put_j15 X Z hy σ

set_option maxRecDepth 100000 in
theorem m_X3_colonel {y : LY} {l : Launch}  {a0 : Int32} {σ : ST} {a : (Int32 × ST)} (h : T_X3_colonel a0 σ = some a) : MU y l yX3_colonel cX3_colonel 3 (some .int) (rmd 3) [.ref (ad y 13), .int a0] σ (xI a) := by
  refine MU.of (φ := xI) h (by decide +kernel) rfl (fun E X Z hy => ?_)
  have X : CX y l E cX3_colonel 3 RX3 (rmd 3) := X
  show WW y l E 3 _ 0 [(0, .ref (ad y 13)), (1, .int a0)] [] σ (T_X3_colonel a0 σ)
  unfold T_X3_colonel
  refine r_iload_n (pc := 0) X dX3_colonel_0 1 rfl rfl ?_
  refine r_callsp (pc := 1) X dX3_colonel_1 cf_X3_isPlace ml_X3_226 (rf rfl rfl) hy (fun b hb => m_X3_isPlace hb) rfl rfl (Nat.le_of_ble_eq_true rfl) (fun x1 => ?_)
  refine r_if_ne (pc := 4) (tgt := 13) X dX3_colonel_4 (by decide) ?_ ?_
  · refine r_aload_n (pc := 13) X dX3_colonel_13 0 rfl rfl ?_
    refine r_callvV (pc := 14) X dX3_colonel_14 cf_X3_keepsBack ml_X3_223 (rf rfl rfl) hy oc_13.1 hc_3 (fun b hb => m_X3_keepsBack hb) rfl rfl (Nat.le_of_ble_eq_true rfl) (fun σ4 => ?_)
    refine r_aload_n (pc := 17) X dX3_colonel_17 0 rfl rfl ?_
    refine r_geti (pc := 18) X dX3_colonel_18 fl_X3_151 oc_13 rfl (fun x5 => ?_)
    refine r_istore_n (pc := 21) (lv' := [(2, .int _), (0, .ref _), (1, .int _)]) X dX3_colonel_21 rfl (by decide) rfl ?_
    refine r_aload_n (pc := 22) X dX3_colonel_22 1 rfl rfl ?_
    refine r_iload_n (pc := 23) X dX3_colonel_23 2 rfl rfl ?_
    refine r_puti (pc := 24) X dX3_colonel_24 fl_X3_151 fw_3_14 oc_13 rfl (fun σ6 => ?_)
    refine r_iload_n (pc := 27) X dX3_colonel_27 0 rfl rfl ?_
    exact r_iret (pc := 28) X Z dX3_colonel_28 rfl
  · refine r_aload_n (pc := 7) X dX3_colonel_7 0 rfl rfl ?_
    refine r_iconst (pc := 8) X dX3_colonel_8 kc_m1 ?_
    refine r_callvI (pc := 9) X dX3_colonel_9 cf_X3_no ml_X3_102 (rf rfl rfl) hy oc_13.1 hc_3 (fun b hb => m_X3_no hb) rfl rfl (Nat.le_of_ble_eq_true rfl) (fun x7 σ8 => ?_)
    exact r_iret (pc := 12) X Z dX3_colonel_12 rfl

set_option maxRecDepth 100000 in
theorem s_X3_hours_j27 {y : LY} {l : Launch} {E : ET} (X : CX y l E cX3_hours 3 RX3 (rmd 7)) (Z : ZX E (some .int)) (hy : y.1 ≤ (eS E).heap.size)     (v1 : Int32) (v2 : Int32) (σ : ST) : WW y l E 3 (fun a => QM y E (xI a)) 27 [(0, .ref (ad y 13)), (1, .int v1), (2, .int v2)] [] σ (T_X3_hours_j27   v1 v2 σ) := by
  unfold T_X3_hours_j27
  refine r_iload_n (pc := 27) X dX3_hours_27 2 rfl rfl ?_
  refine r_if_eq (pc := 28) (tgt := 37) X dX3_hours_28 (by decide) ?_ ?_
  · refine r_aload_n (pc := 37) X dX3_hours_37 0 rfl rfl ?_
    refine r_iconst (pc := 38) X dX3_hours_38 kc_0 ?_
    refine r_puti (pc := 39) X dX3_hours_39 fl_X3_168 fw_3_26 oc_13 rfl (fun σ1 => ?_)
    refine r_aload_n (pc := 42) X dX3_hours_42 0 rfl rfl ?_
    refine r_callvV (pc := 43) X dX3_hours_43 cf_X3_counts ml_X3_229 (rf rfl rfl) hy oc_13.1 hc_3 (fun b hb => m_X3_counts hb) rfl rfl (Nat.le_of_ble_eq_true rfl) (fun σ3 => ?_)
    refine r_aload_n (pc := 46) X dX3_hours_46 0 rfl rfl ?_
    refine r_iload_n (pc := 47) X dX3_hours_47 1 rfl rfl ?_
    refine r_callvV (pc := 48) X dX3_hours_48 cf_X3_goes ml_X3_232 (rf rfl rfl) hy oc_13.1 hc_3 (fun b hb => m_X3_goes hb) rfl rfl (Nat.le_of_ble_eq_true rfl) (fun σ5 => ?_)
    refine r_aload_n (pc := 51) X dX3_hours_51 0 rfl rfl ?_
    refine r_geti (pc := 52) X dX3_hours_52 fl_X3_217 oc_13 rfl (fun x6 => ?_)
    exact r_iret (pc := 55) X Z dX3_hours_55 rfl
  · refine r_aload_n (pc := 31) X dX3_hours_31 0 rfl rfl ?_
    refine r_iload_n (pc := 32) X dX3_hours_32 2 rfl rfl ?_
    refine r_callvI (pc := 33) X dX3_hours_33 cf_X3_no ml_X3_102 (rf rfl rfl) hy oc_13.1 hc_3 (fun b hb => m_X3_no hb) rfl rfl (Nat.le_of_ble_eq_true rfl) (fun x7 σ8 => ?_)
    exact r_iret (pc := 36) X Z dX3_hours_36 rfl

set_option maxRecDepth 100000 in
theorem m_X3_hours {y : LY} {l : Launch}  {a0 : Int32} {σ : ST} {a : (Int32 × ST)} (h : T_X3_hours a0 σ = some a) : MU y l yX3_hours cX3_hours 3 (some .int) (rmd 7) [.ref (ad y 13), .int a0] σ (xI a) := by
  refine MU.of (φ := xI) h (by decide +kernel) rfl (fun E X Z hy => ?_)
  have X : CX y l E cX3_hours 3 RX3 (rmd 7) := X
  show WW y l E 3 _ 0 [(0, .ref (ad y 13)), (1, .int a0)] [] σ (T_X3_hours a0 σ)
  unfold T_X3_hours
  refine r_iload_n (pc := 0) X dX3_hours_0 1 rfl rfl ?_
  refine r_iconst (pc := 1) X dX3_hours_1 kc_1 ?_
  refine r_bipush (pc := 2) X dX3_hours_2 kb_60 ?_
  refine r_callsp (pc := 4) X dX3_hours_4 cf_X3_bound ml_X3_95 (rf rfl rfl) hy (fun b hb => m_X3_bound hb) rfl rfl (Nat.le_of_ble_eq_true rfl) (fun x1 => ?_)
  refine r_istore_n (pc := 7) (lv' := [(2, .int _), (0, .ref _), (1, .int _)]) X dX3_hours_7 rfl (by decide) rfl ?_
  refine r_iload_n (pc := 8) X dX3_hours_8 0 rfl rfl ?_
  refine r_if_ne (pc := 9) (tgt := 27) X dX3_hours_9 (by decide) ?_ ?_
  · refine r_sub [1, 2, 0] rfl ?_
    exact s_X3_hours_j27 X Z hy a0 x1 σ
  · refine r_aload_n (pc := 12) X dX3_hours_12 1 rfl rfl ?_
    refine r_geti (pc := 13) X dX3_hours_13 fl_X3_127 oc_13 rfl (fun x3 => ?_)
    refine r_iload_n (pc := 16) X dX3_hours_16 2 rfl rfl ?_
    refine r_iadd (pc := 17) X dX3_hours_17 ?_
    refine r_sipush (pc := 18) X dX3_hours_18 ks_999 ?_
    refine r_icmp_le (pc := 21) (tgt := 27) X dX3_hours_21 (by decide) ?_ ?_
    · refine r_sub [1, 2, 0] rfl ?_
      exact s_X3_hours_j27 X Z hy a0 x1 σ
    · refine r_bipush (pc := 24) X dX3_hours_24 kb_m6 ?_
      refine r_istore_n (pc := 26) (lv' := [(2, .int _), (0, .ref _), (1, .int _)]) X dX3_hours_26 rfl (by decide) rfl ?_
      refine r_sub [1, 2, 0] rfl ?_
      exact s_X3_hours_j27 X Z hy a0 ((-6)) σ

set_option maxRecDepth 100000 in
theorem m_X3_notHours {y : LY} {l : Launch}  {a0 : Int32} {σ : ST} {a : Int32} (h : T_X3_notHours σ a0 = some a) : MU y l yX3_notHours cX3_notHours 1 (some .int) (rmd 1) [.int a0] σ (xp σ a) := by
  refine MU.of (φ := xp σ) h (by decide +kernel) rfl (fun E X Z hy => ?_)
  have X : CX y l E cX3_notHours 1 RX3 (rmd 1) := X
  show WW y l E 1 _ 0 [(0, .int a0)] [] σ (T_X3_notHours σ a0)
  unfold T_X3_notHours
  refine r_iload_n (pc := 0) X dX3_notHours_0 0 rfl rfl ?_
  refine r_iconst (pc := 1) X dX3_notHours_1 kc_0 ?_
  refine r_bipush (pc := 2) X dX3_notHours_2 kb_60 ?_
  refine r_callsp (pc := 4) X dX3_notHours_4 cf_X3_bound ml_X3_95 (rf rfl rfl) hy (fun b hb => m_X3_bound hb) rfl rfl (Nat.le_of_ble_eq_true rfl) (fun x1 => ?_)
  exact r_iret (pc := 7) X Z dX3_notHours_7 rfl

set_option maxRecDepth 100000 in
theorem s_X3_behind_j132 {y : LY} {l : Launch} {E : ET} (X : CX y l E cX3_behind 7 RX3 (rmd 7)) (Z : ZX E (some .int)) (hy : y.1 ≤ (eS E).heap.size)     (s0 : Int32) (σ : ST) : WW y l E 7 (fun a => QM y E (xI a)) 132 [(0, .ref (ad y 13))] [.int s0] σ (T_X3_behind_j132   s0 σ) := by
  unfold T_X3_behind_j132
  refine r_istore (pc := 132) (lv' := [(6, .int _), (0, .ref _)]) X dX3_behind_132 (by decide) rfl ?_
  refine r_aload_n (pc := 134) X dX3_behind_134 1 rfl rfl ?_
  refine r_callvV (pc := 135) X dX3_behind_135 cf_X3_forgets ml_X3_241 (rf rfl rfl) hy oc_13.1 hc_3 (fun b hb => m_X3_forgets hb) rfl rfl (Nat.le_of_ble_eq_true rfl) (fun σ2 => ?_)
  refine r_iload (pc := 138) X dX3_behind_138 0 rfl ?_
  exact r_iret (pc := 140) X Z dX3_behind_140 rfl

set_option maxRecDepth 100000 in
theorem s_X3_behind_j87 {y : LY} {l : Launch} {E : ET} (X : CX y l E cX3_behind 7 RX3 (rmd 7)) (Z : ZX E (some .int)) (hy : y.1 ≤ (eS E).heap.size)     (v1 : Int32) (v3 : Int32) (s0 : Int32) (σ : ST) : WW y l E 7 (fun a => QM y E (xI a)) 87 [(0, .ref (ad y 13)), (1, .int v1), (3, .int v3)] [.int s0] σ (T_X3_behind_j87   v1 v3 s0 σ) := by
  unfold T_X3_behind_j87
  refine r_istore (pc := 87) (lv' := [(5, .int _), (0, .ref _), (1, .int _), (3, .int _)]) X dX3_behind_87 (by decide) rfl ?_
  refine r_iload_n (pc := 89) X dX3_behind_89 3 rfl rfl ?_
  refine r_if_ne (pc := 90) (tgt := 102) X dX3_behind_90 (by decide) ?_ ?_
  · refine r_iload_n (pc := 102) X dX3_behind_102 3 rfl rfl ?_
    refine r_iconst (pc := 103) X dX3_behind_103 kc_1 ?_
    refine r_icmp_ne (pc := 104) (tgt := 116) X dX3_behind_104 (by decide) ?_ ?_
    · refine r_iload_n (pc := 116) X dX3_behind_116 3 rfl rfl ?_
      refine r_iconst (pc := 117) X dX3_behind_117 kc_2 ?_
      refine r_icmp_ne (pc := 118) (tgt := 130) X dX3_behind_118 (by decide) ?_ ?_
      · refine r_iload (pc := 130) X dX3_behind_130 0 rfl ?_
        refine r_sub [1] rfl ?_
        exact s_X3_behind_j132 X Z hy s0 σ
      · refine r_aload_n (pc := 121) X dX3_behind_121 1 rfl rfl ?_
        refine r_geta (pc := 122) X dX3_behind_122 fl_X3_58 oc_13 (by decide) ?_
        refine r_iload_n (pc := 125) X dX3_behind_125 2 rfl rfl ?_
        refine r_iald (pc := 126) X dX3_behind_126 ar_13_27 (fun x1 => ?_)
        refine r_goto (pc := 127) (tgt := 132) X dX3_behind_127 (by decide) ?_
        refine r_sub [1] rfl ?_
        exact s_X3_behind_j132 X Z hy x1 σ
    · refine r_aload_n (pc := 107) X dX3_behind_107 1 rfl rfl ?_
      refine r_geta (pc := 108) X dX3_behind_108 fl_X3_40 oc_13 (by decide) ?_
      refine r_iload_n (pc := 111) X dX3_behind_111 2 rfl rfl ?_
      refine r_iald (pc := 112) X dX3_behind_112 ar_13_10 (fun x2 => ?_)
      refine r_goto (pc := 113) (tgt := 132) X dX3_behind_113 (by decide) ?_
      refine r_sub [1] rfl ?_
      exact s_X3_behind_j132 X Z hy x2 σ
  · refine r_aload_n (pc := 93) X dX3_behind_93 1 rfl rfl ?_
    refine r_geta (pc := 94) X dX3_behind_94 fl_X3_34 oc_13 (by decide) ?_
    refine r_iload_n (pc := 97) X dX3_behind_97 2 rfl rfl ?_
    refine r_iald (pc := 98) X dX3_behind_98 ar_13_8 (fun x3 => ?_)
    refine r_goto (pc := 99) (tgt := 132) X dX3_behind_99 (by decide) ?_
    refine r_sub [1] rfl ?_
    exact s_X3_behind_j132 X Z hy x3 σ

set_option maxRecDepth 100000 in
theorem s_X3_behind_j36 {y : LY} {l : Launch} {E : ET} (X : CX y l E cX3_behind 7 RX3 (rmd 7)) (Z : ZX E (some .int)) (hy : y.1 ≤ (eS E).heap.size)     (v1 : Int32) (v2 : Int32) (v3 : Int32) (v4 : Int32) (σ : ST) : WW y l E 7 (fun a => QM y E (xI a)) 36 [(0, .ref (ad y 13)), (1, .int v1), (2, .int v2), (3, .int v3), (4, .int v4)] [] σ (T_X3_behind_j36   v1 v2 v3 v4 σ) := by
  unfold T_X3_behind_j36
  refine r_iload (pc := 36) X dX3_behind_36 4 rfl ?_
  refine r_if_eq (pc := 38) (tgt := 48) X dX3_behind_38 (by decide) ?_ ?_
  · refine r_aload_n (pc := 48) X dX3_behind_48 0 rfl rfl ?_
    refine r_callvV (pc := 49) X dX3_behind_49 cf_X3_thinks ml_X3_238 (rf rfl rfl) hy oc_13.1 hc_3 (fun b hb => m_X3_thinks hb) rfl rfl (Nat.le_of_ble_eq_true rfl) (fun σ2 => ?_)
    refine r_aload_n (pc := 52) X dX3_behind_52 0 rfl rfl ?_
    refine r_callvV (pc := 53) X dX3_behind_53 cf_X3_counts ml_X3_229 (rf rfl rfl) hy oc_13.1 hc_3 (fun b hb => m_X3_counts hb) rfl rfl (Nat.le_of_ble_eq_true rfl) (fun σ4 => ?_)
    refine r_aload_n (pc := 56) X dX3_behind_56 0 rfl rfl ?_
    refine r_iload_n (pc := 57) X dX3_behind_57 2 rfl rfl ?_
    refine r_callvV (pc := 58) X dX3_behind_58 cf_X3_goes ml_X3_232 (rf rfl rfl) hy oc_13.1 hc_3 (fun b hb => m_X3_goes hb) rfl rfl (Nat.le_of_ble_eq_true rfl) (fun σ6 => ?_)
    refine r_aload_n (pc := 61) X dX3_behind_61 0 rfl rfl ?_
    refine r_geta (pc := 62) X dX3_behind_62 fl_X3_37 oc_13 (by decide) ?_
    refine r_iload_n (pc := 65) X dX3_behind_65 1 rfl rfl ?_
    refine r_iald (pc := 66) X dX3_behind_66 ar_13_9 (fun x7 => ?_)
    refine r_bipush (pc := 67) X dX3_behind_67 kb_9 ?_
    refine r_icmp_ge (pc := 69) (tgt := 85) X dX3_behind_69 (by decide) ?_ ?_
    · refine r_bipush (pc := 85) X dX3_behind_85 kb_m9 ?_
      refine r_sub [0, 1, 3] rfl ?_
      exact s_X3_behind_j87 X Z hy v1 v3 ((-9)) σ6
    · refine r_aload_n (pc := 72) X dX3_behind_72 0 rfl rfl ?_
      refine r_aload_n (pc := 73) X dX3_behind_73 0 rfl rfl ?_
      refine r_geta (pc := 74) X dX3_behind_74 fl_X3_37 oc_13 (by decide) ?_
      refine r_iload_n (pc := 77) X dX3_behind_77 1 rfl rfl ?_
      refine r_iald (pc := 78) X dX3_behind_78 ar_13_9 (fun x8 => ?_)
      refine r_callvp (pc := 79) X dX3_behind_79 cf_X3_pullOf ml_X3_198 (rf rfl rfl) hy oc_13.1 hc_3 (fun b hb => m_X3_pullOf hb) rfl rfl (Nat.le_of_ble_eq_true rfl) (fun x9 => ?_)
      refine r_goto (pc := 82) (tgt := 87) X dX3_behind_82 (by decide) ?_
      refine r_sub [0, 1, 3] rfl ?_
      exact s_X3_behind_j87 X Z hy v1 v3 x9 σ6
  · refine r_aload_n (pc := 41) X dX3_behind_41 0 rfl rfl ?_
    refine r_iload (pc := 42) X dX3_behind_42 4 rfl ?_
    refine r_callvI (pc := 44) X dX3_behind_44 cf_X3_no ml_X3_102 (rf rfl rfl) hy oc_13.1 hc_3 (fun b hb => m_X3_no hb) rfl rfl (Nat.le_of_ble_eq_true rfl) (fun x11 σ12 => ?_)
    exact r_iret (pc := 47) X Z dX3_behind_47 rfl

set_option maxRecDepth 100000 in
theorem s_X3_behind_j16 {y : LY} {l : Launch} {E : ET} (X : CX y l E cX3_behind 7 RX3 (rmd 7)) (Z : ZX E (some .int)) (hy : y.1 ≤ (eS E).heap.size)     (v1 : Int32) (v2 : Int32) (v3 : Int32) (s0 : Int32) (σ : ST) : WW y l E 7 (fun a => QM y E (xI a)) 16 [(0, .ref (ad y 13)), (1, .int v1), (2, .int v2), (3, .int v3)] [.int s0] σ (T_X3_behind_j16   v1 v2 v3 s0 σ) := by
  unfold T_X3_behind_j16
  refine r_istore (pc := 16) (lv' := [(4, .int _), (0, .ref _), (1, .int _), (2, .int _), (3, .int _)]) X dX3_behind_16 (by decide) rfl ?_
  refine r_iload (pc := 18) X dX3_behind_18 0 rfl ?_
  refine r_if_ne (pc := 20) (tgt := 36) X dX3_behind_20 (by decide) ?_ ?_
  · refine r_sub [1, 2, 3, 4, 0] rfl ?_
    exact s_X3_behind_j36 X Z hy v1 v2 v3 s0 σ
  · refine r_iload_n (pc := 23) X dX3_behind_23 4 rfl rfl ?_
    refine r_iconst (pc := 24) X dX3_behind_24 kc_0 ?_
    refine r_iconst (pc := 25) X dX3_behind_25 kc_3 ?_
    refine r_callsp (pc := 26) X dX3_behind_26 cf_X3_isIn ml_X3_113 (rf rfl rfl) hy (fun b hb => m_X3_isIn hb) rfl rfl (Nat.le_of_ble_eq_true rfl) (fun x1 => ?_)
    refine r_if_ne (pc := 29) (tgt := 36) X dX3_behind_29 (by decide) ?_ ?_
    · refine r_sub [1, 2, 3, 4, 0] rfl ?_
      exact s_X3_behind_j36 X Z hy v1 v2 v3 s0 σ
    · refine r_bipush (pc := 32) X dX3_behind_32 kb_m2 ?_
      refine r_istore (pc := 34) (lv' := [(4, .int _), (0, .ref _), (1, .int _), (2, .int _), (3, .int _)]) X dX3_behind_34 (by decide) rfl ?_
      refine r_sub [1, 2, 3, 4, 0] rfl ?_
      exact s_X3_behind_j36 X Z hy v1 v2 v3 ((-2)) σ

set_option maxRecDepth 100000 in
theorem m_X3_behind {y : LY} {l : Launch}  {a0 : Int32} {a1 : Int32} {a2 : Int32} {σ : ST} {a : (Int32 × ST)} (h : T_X3_behind a0 a1 a2 σ = some a) : MU y l yX3_behind cX3_behind 7 (some .int) (rmd 7) [.ref (ad y 13), .int a0, .int a1, .int a2] σ (xI a) := by
  refine MU.of (φ := xI) h (by decide +kernel) rfl (fun E X Z hy => ?_)
  have X : CX y l E cX3_behind 7 RX3 (rmd 7) := X
  show WW y l E 7 _ 0 [(0, .ref (ad y 13)), (1, .int a0), (2, .int a1), (3, .int a2)] [] σ (T_X3_behind a0 a1 a2 σ)
  unfold T_X3_behind
  refine r_aload_n (pc := 0) X dX3_behind_0 0 rfl rfl ?_
  refine r_iload_n (pc := 1) X dX3_behind_1 1 rfl rfl ?_
  refine r_callvp (pc := 2) X dX3_behind_2 cf_X3_isBearer ml_X3_91 (rf rfl rfl) hy oc_13.1 hc_3 (fun b hb => m_X3_isBearer hb) rfl rfl (Nat.le_of_ble_eq_true rfl) (fun x1 => ?_)
  refine r_if_ne (pc := 5) (tgt := 12) X dX3_behind_5 (by decide) ?_ ?_
  · refine r_iload_n (pc := 12) X dX3_behind_12 2 rfl rfl ?_
    refine r_callsp (pc := 13) X dX3_behind_13 cf_X3_notHours ml_X3_235 (rf rfl rfl) hy (fun b hb => m_X3_notHours hb) rfl rfl (Nat.le_of_ble_eq_true rfl) (fun x3 => ?_)
    exact s_X3_behind_j16 X Z hy a0 a1 a2 x3 σ
  · refine r_iconst (pc := 8) X dX3_behind_8 kc_m1 ?_
    refine r_goto (pc := 9) (tgt := 16) X dX3_behind_9 (by decide) ?_
    exact s_X3_behind_j16 X Z hy a0 a1 a2 ((-1)) σ

set_option maxRecDepth 100000 in
theorem s_X3_meetsIn_j43 {y : LY} {l : Launch} {E : ET} (X : CX y l E cX3_meetsIn 5 RX3 (rmd 6)) (Z : ZX E (some .int)) (hy : y.1 ≤ (eS E).heap.size)   {K10 : Int32 → Int32 → Int32 → Int32 → ST → Option (Int32 × ST)} (hK10 : ∀ (v1 : Int32) (v2 : Int32) (v3 : Int32) (v4 : Int32) (σ : ST), WW y l E 5 (fun a => QM y E (xI a)) 10 [(0, .ref (ad y 13)), (1, .int v1), (2, .int v2), (3, .int v3), (4, .int v4)] [] σ (K10 v1 v2 v3 v4 σ)) (v1 : Int32) (v2 : Int32) (v4 : Int32) (s0 : Int32) (σ : ST) : WW y l E 5 (fun a => QM y E (xI a)) 43 [(0, .ref (ad y 13)), (1, .int v1), (2, .int v2), (4, .int v4)] [.int s0] σ (T_X3_meetsIn_j43 K10  v1 v2 v4 s0 σ) := by
  unfold T_X3_meetsIn_j43
  refine r_istore_n (pc := 43) (lv' := [(3, .int _), (0, .ref _), (1, .int _), (2, .int _), (4, .int _)]) X dX3_meetsIn_43 rfl (by decide) rfl ?_
  refine r_aload_n (pc := 44) X dX3_meetsIn_44 1 rfl rfl ?_
  refine r_iconst (pc := 45) X dX3_meetsIn_45 kc_0 ?_
  refine r_callvV (pc := 46) X dX3_meetsIn_46 cf_X3_goesHour ml_X3_130 (rf rfl rfl) hy oc_13.1 hc_3 (fun b hb => m_X3_goesHour hb) rfl rfl (Nat.le_of_ble_eq_true rfl) (fun σ2 => ?_)
  refine r_iinc (pc := 49) (lv' := [(3, .int _), (0, .ref _), (1, .int _), (2, .int _)]) X dX3_meetsIn_49 4 rfl (congrArg (fun z => v4 + z) kc_1) (by decide) rfl (fun x3 => ?_)
  refine r_goto (pc := 52) (tgt := 10) X dX3_meetsIn_52 (by decide) ?_
  refine r_sub [2, 3, 4, 1, 0] rfl ?_
  exact hK10 v1 v2 s0 x3 σ2

set_option maxRecDepth 100000 in
theorem s_X3_meetsIn_j55 {y : LY} {l : Launch} {E : ET} (X : CX y l E cX3_meetsIn 5 RX3 (rmd 6)) (Z : ZX E (some .int)) (hy : y.1 ≤ (eS E).heap.size)     (v3 : Int32) (σ : ST) : WW y l E 5 (fun a => QM y E (xI a)) 55 [(0, .ref (ad y 13)), (3, .int v3)] [] σ (T_X3_meetsIn_j55   v3 σ) := by
  unfold T_X3_meetsIn_j55
  refine r_aload_n (pc := 55) X dX3_meetsIn_55 0 rfl rfl ?_
  refine r_callvV (pc := 56) X dX3_meetsIn_56 cf_X3_forgets ml_X3_241 (rf rfl rfl) hy oc_13.1 hc_3 (fun b hb => m_X3_forgets hb) rfl rfl (Nat.le_of_ble_eq_true rfl) (fun σ2 => ?_)
  refine r_iload_n (pc := 59) X dX3_meetsIn_59 1 rfl rfl ?_
  exact r_iret (pc := 60) X Z dX3_meetsIn_60 rfl

set_option maxRecDepth 100000 in
theorem s_X3_meetsIn_L10 {y : LY} {l : Launch} {E : ET} (X : CX y l E cX3_meetsIn 5 RX3 (rmd 6)) (Z : ZX E (some .int)) (hy : y.1 ≤ (eS E).heap.size)     (n : Nat) : ∀ (v1 : Int32) (v2 : Int32) (v3 : Int32) (v4 : Int32) (σ : ST), WW y l E 5 (fun a => QM y E (xI a)) 10 [(0, .ref (ad y 13)), (1, .int v1), (2, .int v2), (3, .int v3), (4, .int v4)] [] σ (T_X3_meetsIn_L10  n v1 v2 v3 v4 σ) := by
  induction n with
  | zero => intros; exact r_none rfl
  | succ n ih =>
    intro v1 v2 v3 v4 σ
    unfold T_X3_meetsIn_L10
    refine r_iload (pc := 10) X dX3_meetsIn_10 4 rfl ?_
    refine r_bipush (pc := 12) X dX3_meetsIn_12 kb_60 ?_
    refine r_icmp_gt (pc := 14) (tgt := 55) X dX3_meetsIn_14 (by decide) ?_ ?_
    · refine r_sub [0, 3] rfl ?_
      exact s_X3_meetsIn_j55 X Z hy v3 σ
    · refine r_iload_n (pc := 17) X dX3_meetsIn_17 3 rfl rfl ?_
      refine r_if_ge (pc := 18) (tgt := 55) X dX3_meetsIn_18 (by decide) ?_ ?_
      · refine r_sub [0, 3] rfl ?_
        exact s_X3_meetsIn_j55 X Z hy v3 σ
      · refine r_aload_n (pc := 21) X dX3_meetsIn_21 0 rfl rfl ?_
        refine r_geta (pc := 22) X dX3_meetsIn_22 fl_X3_34 oc_13 (by decide) ?_
        refine r_iload_n (pc := 25) X dX3_meetsIn_25 1 rfl rfl ?_
        refine r_iald (pc := 26) X dX3_meetsIn_26 ar_13_8 (fun x1 => ?_)
        refine r_aload_n (pc := 27) X dX3_meetsIn_27 0 rfl rfl ?_
        refine r_geta (pc := 28) X dX3_meetsIn_28 fl_X3_34 oc_13 (by decide) ?_
        refine r_iload_n (pc := 31) X dX3_meetsIn_31 2 rfl rfl ?_
        refine r_iald (pc := 32) X dX3_meetsIn_32 ar_13_8 (fun x2 => ?_)
        refine r_icmp_ne (pc := 33) (tgt := 41) X dX3_meetsIn_33 (by decide) ?_ ?_
        · refine r_bipush (pc := 41) X dX3_meetsIn_41 kb_m9 ?_
          refine r_sub [0, 1, 2, 4] rfl ?_
          exact s_X3_meetsIn_j43 X Z hy (fun v1 v2 v3 v4 s => ih v1 v2 v3 v4 s) v1 v2 v4 ((-9)) σ
        · refine r_iload (pc := 36) X dX3_meetsIn_36 4 rfl ?_
          refine r_goto (pc := 38) (tgt := 43) X dX3_meetsIn_38 (by decide) ?_
          refine r_sub [0, 1, 2, 4] rfl ?_
          exact s_X3_meetsIn_j43 X Z hy (fun v1 v2 v3 v4 s => ih v1 v2 v3 v4 s) v1 v2 v4 v4 σ

set_option maxRecDepth 100000 in
theorem m_X3_meetsIn {y : LY} {l : Launch}  {a0 : Int32} {a1 : Int32} {σ : ST} {a : (Int32 × ST)} (h : T_X3_meetsIn a0 a1 σ = some a) : MU y l yX3_meetsIn cX3_meetsIn 5 (some .int) (rmd 6) [.ref (ad y 13), .int a0, .int a1] σ (xI a) := by
  refine MU.of (φ := xI) h (by decide +kernel) rfl (fun E X Z hy => ?_)
  have X : CX y l E cX3_meetsIn 5 RX3 (rmd 6) := X
  show WW y l E 5 _ 0 [(0, .ref (ad y 13)), (1, .int a0), (2, .int a1)] [] σ (T_X3_meetsIn a0 a1 σ)
  unfold T_X3_meetsIn
  refine r_aload_n (pc := 0) X dX3_meetsIn_0 0 rfl rfl ?_
  refine r_callvV (pc := 1) X dX3_meetsIn_1 cf_X3_thinks ml_X3_238 (rf rfl rfl) hy oc_13.1 hc_3 (fun b hb => m_X3_thinks hb) rfl rfl (Nat.le_of_ble_eq_true rfl) (fun σ2 => ?_)
  refine r_bipush (pc := 4) X dX3_meetsIn_4 kb_m9 ?_
  refine r_istore_n (pc := 6) (lv' := [(3, .int _), (0, .ref _), (1, .int _), (2, .int _)]) X dX3_meetsIn_6 rfl (by decide) rfl ?_
  refine r_iconst (pc := 7) X dX3_meetsIn_7 kc_0 ?_
  refine r_istore (pc := 8) (lv' := [(4, .int _), (3, .int _), (0, .ref _), (1, .int _), (2, .int _)]) X dX3_meetsIn_8 (by decide) rfl ?_
  refine r_sub [2, 3, 4, 1, 0] rfl ?_
  exact s_X3_meetsIn_L10 X Z hy FU a0 a1 ((-9)) 0 σ2

set_option maxRecDepth 100000 in
theorem m_X3_meet {y : LY} {l : Launch}  {a0 : Int32} {a1 : Int32} {σ : ST} {a : (Int32 × ST)} (h : T_X3_meet a0 a1 σ = some a) : MU y l yX3_meet cX3_meet 3 (some .int) (rmd 7) [.ref (ad y 13), .int a0, .int a1] σ (xI a) := by
  refine MU.of (φ := xI) h (by decide +kernel) rfl (fun E X Z hy => ?_)
  have X : CX y l E cX3_meet 3 RX3 (rmd 7) := X
  show WW y l E 3 _ 0 [(0, .ref (ad y 13)), (1, .int a0), (2, .int a1)] [] σ (T_X3_meet a0 a1 σ)
  unfold T_X3_meet
  refine r_aload_n (pc := 0) X dX3_meet_0 0 rfl rfl ?_
  refine r_iload_n (pc := 1) X dX3_meet_1 1 rfl rfl ?_
  refine r_iload_n (pc := 2) X dX3_meet_2 2 rfl rfl ?_
  refine r_callvp (pc := 3) X dX3_meet_3 cf_X3_areTwo ml_X3_244 (rf rfl rfl) hy oc_13.1 hc_3 (fun b hb => m_X3_areTwo hb) rfl rfl (Nat.le_of_ble_eq_true rfl) (fun x1 => ?_)
  refine r_if_eq (pc := 6) (tgt := 18) X dX3_meet_6 (by decide) ?_ ?_
  · refine r_aload_n (pc := 18) X dX3_meet_18 0 rfl rfl ?_
    refine r_iconst (pc := 19) X dX3_meet_19 kc_m1 ?_
    refine r_callvI (pc := 20) X dX3_meet_20 cf_X3_no ml_X3_102 (rf rfl rfl) hy oc_13.1 hc_3 (fun b hb => m_X3_no hb) rfl rfl (Nat.le_of_ble_eq_true rfl) (fun x3 σ4 => ?_)
    exact r_iret (pc := 23) X Z dX3_meet_23 rfl
  · refine r_aload_n (pc := 9) X dX3_meet_9 0 rfl rfl ?_
    refine r_iload_n (pc := 10) X dX3_meet_10 1 rfl rfl ?_
    refine r_iload_n (pc := 11) X dX3_meet_11 2 rfl rfl ?_
    refine r_callvI (pc := 12) X dX3_meet_12 cf_X3_meetsIn ml_X3_247 (rf rfl rfl) hy oc_13.1 hc_3 (fun b hb => m_X3_meetsIn hb) rfl rfl (Nat.le_of_ble_eq_true rfl) (fun x5 σ6 => ?_)
    refine r_goto (pc := 15) (tgt := 23) X dX3_meet_15 (by decide) ?_
    exact r_iret (pc := 23) X Z dX3_meet_23 rfl

set_option maxRecDepth 100000 in
theorem s_X3_manyAt_L4 {y : LY} {l : Launch} {E : ET} (X : CX y l E cX3_manyAt 4 RX3 (rmd 0)) (Z : ZX E (some .int)) (hy : y.1 ≤ (eS E).heap.size)  {σ : ST}   (n : Nat) : ∀ (v1 : Int32) (v2 : Int32) (v3 : Int32), WW y l E 4 (fun a => QM y E (xp σ a)) 4 [(0, .ref (ad y 13)), (1, .int v1), (2, .int v2), (3, .int v3)] [] σ (T_X3_manyAt_L4 σ n v1 v2 v3) := by
  induction n with
  | zero => intros; exact r_none rfl
  | succ n ih =>
    intro v1 v2 v3
    unfold T_X3_manyAt_L4
    refine r_iload_n (pc := 4) X dX3_manyAt_4 3 rfl rfl ?_
    refine r_aload_n (pc := 5) X dX3_manyAt_5 0 rfl rfl ?_
    refine r_geti (pc := 6) X dX3_manyAt_6 fl_X3_88 oc_13 rfl (fun x1 => ?_)
    refine r_icmp_ge (pc := 9) (tgt := 36) X dX3_manyAt_9 (by decide) ?_ ?_
    · refine r_iload_n (pc := 36) X dX3_manyAt_36 2 rfl rfl ?_
      exact r_iret (pc := 37) X Z dX3_manyAt_37 rfl
    · refine r_iload_n (pc := 12) X dX3_manyAt_12 2 rfl rfl ?_
      refine r_aload_n (pc := 13) X dX3_manyAt_13 0 rfl rfl ?_
      refine r_geta (pc := 14) X dX3_manyAt_14 fl_X3_34 oc_13 (by decide) ?_
      refine r_iload_n (pc := 17) X dX3_manyAt_17 3 rfl rfl ?_
      refine r_iald (pc := 18) X dX3_manyAt_18 ar_13_8 (fun x2 => ?_)
      refine r_iload_n (pc := 19) X dX3_manyAt_19 1 rfl rfl ?_
      refine r_icmp_ne (pc := 20) (tgt := 27) X dX3_manyAt_20 (by decide) ?_ ?_
      · refine r_iconst (pc := 27) X dX3_manyAt_27 kc_0 ?_
        refine r_iadd (pc := 28) X dX3_manyAt_28 ?_
        refine r_vl (fun x3 => ?_)
        refine r_istore_n (pc := 29) (lv' := [(2, .int _), (0, .ref _), (1, .int _), (3, .int _)]) X dX3_manyAt_29 rfl (by decide) rfl ?_
        refine r_iinc (pc := 30) (lv' := [(2, .int _), (0, .ref _), (1, .int _)]) X dX3_manyAt_30 3 rfl (congrArg (fun z => v3 + z) kc_1) (by decide) rfl (fun x4 => ?_)
        refine r_goto (pc := 33) (tgt := 4) X dX3_manyAt_33 (by decide) ?_
        refine r_sub [2, 3, 1, 0] rfl ?_
        exact ih v1 x3 x4
      · refine r_iconst (pc := 23) X dX3_manyAt_23 kc_1 ?_
        refine r_goto (pc := 24) (tgt := 28) X dX3_manyAt_24 (by decide) ?_
        refine r_iadd (pc := 28) X dX3_manyAt_28 ?_
        refine r_vl (fun x5 => ?_)
        refine r_istore_n (pc := 29) (lv' := [(2, .int _), (0, .ref _), (1, .int _), (3, .int _)]) X dX3_manyAt_29 rfl (by decide) rfl ?_
        refine r_iinc (pc := 30) (lv' := [(2, .int _), (0, .ref _), (1, .int _)]) X dX3_manyAt_30 3 rfl (congrArg (fun z => v3 + z) kc_1) (by decide) rfl (fun x6 => ?_)
        refine r_goto (pc := 33) (tgt := 4) X dX3_manyAt_33 (by decide) ?_
        refine r_sub [2, 3, 1, 0] rfl ?_
        exact ih v1 x5 x6

set_option maxRecDepth 100000 in
theorem m_X3_manyAt {y : LY} {l : Launch}  {a0 : Int32} {σ : ST} {a : Int32} (h : T_X3_manyAt σ a0 = some a) : MU y l yX3_manyAt cX3_manyAt 4 (some .int) (rmd 0) [.ref (ad y 13), .int a0] σ (xp σ a) := by
  refine MU.of (φ := xp σ) h (by decide +kernel) rfl (fun E X Z hy => ?_)
  have X : CX y l E cX3_manyAt 4 RX3 (rmd 0) := X
  show WW y l E 4 _ 0 [(0, .ref (ad y 13)), (1, .int a0)] [] σ (T_X3_manyAt σ a0)
  unfold T_X3_manyAt
  refine r_iconst (pc := 0) X dX3_manyAt_0 kc_0 ?_
  refine r_istore_n (pc := 1) (lv' := [(2, .int _), (0, .ref _), (1, .int _)]) X dX3_manyAt_1 rfl (by decide) rfl ?_
  refine r_iconst (pc := 2) X dX3_manyAt_2 kc_0 ?_
  refine r_istore_n (pc := 3) (lv' := [(3, .int _), (2, .int _), (0, .ref _), (1, .int _)]) X dX3_manyAt_3 rfl (by decide) rfl ?_
  refine r_sub [2, 3, 1, 0] rfl ?_
  exact s_X3_manyAt_L4 X Z hy FU a0 0 0

set_option maxRecDepth 100000 in
theorem s_X3_company_L46 {y : LY} {l : Launch} {E : ET} (X : CX y l E cX3_company 6 RX3 (rmd 7)) (Z : ZX E (some .int)) (hy : y.1 ≤ (eS E).heap.size)     (n : Nat) : ∀ (v2 : Int32) (v4 : Int32) (v5 : Int32) (σ : ST), WW y l E 6 (fun a => QM y E (xI a)) 46 [(0, .ref (ad y 13)), (2, .int v2), (4, .int v4), (5, .int v5)] [] σ (T_X3_company_L46  n v2 v4 v5 σ) := by
  induction n with
  | zero => intros; exact r_none rfl
  | succ n ih =>
    intro v2 v4 v5 σ
    unfold T_X3_company_L46
    refine r_iload (pc := 46) X dX3_company_46 3 rfl ?_
    refine r_bipush (pc := 48) X dX3_company_48 kb_10 ?_
    refine r_icmp_ge (pc := 50) (tgt := 83) X dX3_company_50 (by decide) ?_ ?_
    · refine r_aload_n (pc := 83) X dX3_company_83 0 rfl rfl ?_
      refine r_iload (pc := 84) X dX3_company_84 2 rfl ?_
      refine r_callvp (pc := 86) X dX3_company_86 cf_X3_manyAt ml_X3_250 (rf rfl rfl) hy oc_13.1 hc_3 (fun b hb => m_X3_manyAt hb) rfl rfl (Nat.le_of_ble_eq_true rfl) (fun x1 => ?_)
      refine r_istore (pc := 89) (lv' := [(5, .int _), (0, .ref _), (2, .int _), (4, .int _)]) X dX3_company_89 (by decide) rfl ?_
      refine r_aload_n (pc := 91) X dX3_company_91 1 rfl rfl ?_
      refine r_callvV (pc := 92) X dX3_company_92 cf_X3_forgets ml_X3_241 (rf rfl rfl) hy oc_13.1 hc_3 (fun b hb => m_X3_forgets hb) rfl rfl (Nat.le_of_ble_eq_true rfl) (fun σ4 => ?_)
      refine r_iload_n (pc := 95) X dX3_company_95 2 rfl rfl ?_
      refine r_if_ne (pc := 96) (tgt := 104) X dX3_company_96 (by decide) ?_ ?_
      · refine r_iload (pc := 104) X dX3_company_104 3 rfl ?_
        exact r_iret (pc := 106) X Z dX3_company_106 rfl
      · refine r_iload (pc := 99) X dX3_company_99 0 rfl ?_
        refine r_goto (pc := 101) (tgt := 106) X dX3_company_101 (by decide) ?_
        exact r_iret (pc := 106) X Z dX3_company_106 rfl
    · refine r_aload_n (pc := 53) X dX3_company_53 0 rfl rfl ?_
      refine r_iload (pc := 54) X dX3_company_54 3 rfl ?_
      refine r_callvp (pc := 56) X dX3_company_56 cf_X3_manyAt ml_X3_250 (rf rfl rfl) hy oc_13.1 hc_3 (fun b hb => m_X3_manyAt hb) rfl rfl (Nat.le_of_ble_eq_true rfl) (fun x5 => ?_)
      refine r_aload_n (pc := 59) X dX3_company_59 0 rfl rfl ?_
      refine r_iload (pc := 60) X dX3_company_60 2 rfl ?_
      refine r_callvp (pc := 62) X dX3_company_62 cf_X3_manyAt ml_X3_250 (rf rfl rfl) hy oc_13.1 hc_3 (fun b hb => m_X3_manyAt hb) rfl rfl (Nat.le_of_ble_eq_true rfl) (fun x7 => ?_)
      refine r_icmp_le (pc := 65) (tgt := 73) X dX3_company_65 (by decide) ?_ ?_
      · refine r_iload (pc := 73) X dX3_company_73 2 rfl ?_
        refine r_istore (pc := 75) (lv' := [(4, .int _), (0, .ref _), (2, .int _), (5, .int _)]) X dX3_company_75 (by decide) rfl ?_
        refine r_iinc (pc := 77) (lv' := [(4, .int _), (0, .ref _), (2, .int _)]) X dX3_company_77 3 rfl (congrArg (fun z => v5 + z) kc_1) (by decide) rfl (fun x9 => ?_)
        refine r_goto (pc := 80) (tgt := 46) X dX3_company_80 (by decide) ?_
        refine r_sub [2, 3, 1, 0] rfl ?_
        exact ih v2 v4 x9 σ
      · refine r_iload (pc := 68) X dX3_company_68 3 rfl ?_
        refine r_goto (pc := 70) (tgt := 75) X dX3_company_70 (by decide) ?_
        refine r_istore (pc := 75) (lv' := [(4, .int _), (0, .ref _), (2, .int _), (5, .int _)]) X dX3_company_75 (by decide) rfl ?_
        refine r_iinc (pc := 77) (lv' := [(4, .int _), (0, .ref _), (2, .int _)]) X dX3_company_77 3 rfl (congrArg (fun z => v5 + z) kc_1) (by decide) rfl (fun x10 => ?_)
        refine r_goto (pc := 80) (tgt := 46) X dX3_company_80 (by decide) ?_
        refine r_sub [2, 3, 1, 0] rfl ?_
        exact ih v2 v5 x10 σ

set_option maxRecDepth 100000 in
theorem s_X3_company_j21 {y : LY} {l : Launch} {E : ET} (X : CX y l E cX3_company 6 RX3 (rmd 7)) (Z : ZX E (some .int)) (hy : y.1 ≤ (eS E).heap.size)     (v1 : Int32) (v2 : Int32) (v3 : Int32) (σ : ST) : WW y l E 6 (fun a => QM y E (xI a)) 21 [(0, .ref (ad y 13)), (1, .int v1), (2, .int v2), (3, .int v3)] [] σ (T_X3_company_j21   v1 v2 v3 σ) := by
  unfold T_X3_company_j21
  refine r_iload_n (pc := 21) X dX3_company_21 3 rfl rfl ?_
  refine r_if_eq (pc := 22) (tgt := 31) X dX3_company_22 (by decide) ?_ ?_
  · refine r_aload_n (pc := 31) X dX3_company_31 0 rfl rfl ?_
    refine r_callvV (pc := 32) X dX3_company_32 cf_X3_thinks ml_X3_238 (rf rfl rfl) hy oc_13.1 hc_3 (fun b hb => m_X3_thinks hb) rfl rfl (Nat.le_of_ble_eq_true rfl) (fun σ2 => ?_)
    refine r_aload_n (pc := 35) X dX3_company_35 0 rfl rfl ?_
    refine r_iload_n (pc := 36) X dX3_company_36 1 rfl rfl ?_
    refine r_callvV (pc := 37) X dX3_company_37 cf_X3_goes ml_X3_232 (rf rfl rfl) hy oc_13.1 hc_3 (fun b hb => m_X3_goes hb) rfl rfl (Nat.le_of_ble_eq_true rfl) (fun σ4 => ?_)
    refine r_iconst (pc := 40) X dX3_company_40 kc_0 ?_
    refine r_istore (pc := 41) (lv' := [(4, .int _), (0, .ref _), (1, .int _), (2, .int _), (3, .int _)]) X dX3_company_41 (by decide) rfl ?_
    refine r_iconst (pc := 43) X dX3_company_43 kc_1 ?_
    refine r_istore (pc := 44) (lv' := [(5, .int _), (4, .int _), (0, .ref _), (1, .int _), (2, .int _), (3, .int _)]) X dX3_company_44 (by decide) rfl ?_
    refine r_sub [2, 4, 1, 0] rfl ?_
    exact s_X3_company_L46 X Z hy FU v2 0 1 σ4
  · refine r_aload_n (pc := 25) X dX3_company_25 0 rfl rfl ?_
    refine r_iload_n (pc := 26) X dX3_company_26 3 rfl rfl ?_
    refine r_callvI (pc := 27) X dX3_company_27 cf_X3_no ml_X3_102 (rf rfl rfl) hy oc_13.1 hc_3 (fun b hb => m_X3_no hb) rfl rfl (Nat.le_of_ble_eq_true rfl) (fun x5 σ6 => ?_)
    exact r_iret (pc := 30) X Z dX3_company_30 rfl

set_option maxRecDepth 100000 in
theorem m_X3_company {y : LY} {l : Launch}  {a0 : Int32} {a1 : Int32} {σ : ST} {a : (Int32 × ST)} (h : T_X3_company a0 a1 σ = some a) : MU y l yX3_company cX3_company 6 (some .int) (rmd 7) [.ref (ad y 13), .int a0, .int a1] σ (xI a) := by
  refine MU.of (φ := xI) h (by decide +kernel) rfl (fun E X Z hy => ?_)
  have X : CX y l E cX3_company 6 RX3 (rmd 7) := X
  show WW y l E 6 _ 0 [(0, .ref (ad y 13)), (1, .int a0), (2, .int a1)] [] σ (T_X3_company a0 a1 σ)
  unfold T_X3_company
  refine r_iload_n (pc := 0) X dX3_company_0 1 rfl rfl ?_
  refine r_callsp (pc := 1) X dX3_company_1 cf_X3_notHours ml_X3_235 (rf rfl rfl) hy (fun b hb => m_X3_notHours hb) rfl rfl (Nat.le_of_ble_eq_true rfl) (fun x1 => ?_)
  refine r_istore_n (pc := 4) (lv' := [(3, .int _), (0, .ref _), (1, .int _), (2, .int _)]) X dX3_company_4 rfl (by decide) rfl ?_
  refine r_iload_n (pc := 5) X dX3_company_5 0 rfl rfl ?_
  refine r_if_ne (pc := 6) (tgt := 21) X dX3_company_6 (by decide) ?_ ?_
  · refine r_sub [1, 2, 3, 0] rfl ?_
    exact s_X3_company_j21 X Z hy a0 a1 x1 σ
  · refine r_iload_n (pc := 9) X dX3_company_9 3 rfl rfl ?_
    refine r_iconst (pc := 10) X dX3_company_10 kc_0 ?_
    refine r_iconst (pc := 11) X dX3_company_11 kc_1 ?_
    refine r_callsp (pc := 12) X dX3_company_12 cf_X3_isIn ml_X3_113 (rf rfl rfl) hy (fun b hb => m_X3_isIn hb) rfl rfl (Nat.le_of_ble_eq_true rfl) (fun x3 => ?_)
    refine r_if_ne (pc := 15) (tgt := 21) X dX3_company_15 (by decide) ?_ ?_
    · refine r_sub [1, 2, 3, 0] rfl ?_
      exact s_X3_company_j21 X Z hy a0 a1 x1 σ
    · refine r_bipush (pc := 18) X dX3_company_18 kb_m2 ?_
      refine r_istore_n (pc := 20) (lv' := [(3, .int _), (0, .ref _), (1, .int _), (2, .int _)]) X dX3_company_20 rfl (by decide) rfl ?_
      refine r_sub [1, 2, 3, 0] rfl ?_
      exact s_X3_company_j21 X Z hy a0 a1 ((-2)) σ

set_option maxRecDepth 100000 in
theorem s_X3_outOf_j34 {y : LY} {l : Launch} {E : ET} (X : CX y l E cX3_outOf 4 RX3 (rmd 6)) (Z : ZX E (some .int)) (hy : y.1 ≤ (eS E).heap.size)   {K9 : Int32 → Int32 → Int32 → ST → Option (Int32 × ST)} (hK9 : ∀ (v1 : Int32) (v2 : Int32) (v3 : Int32) (σ : ST), WW y l E 4 (fun a => QM y E (xI a)) 9 [(0, .ref (ad y 13)), (1, .int v1), (2, .int v2), (3, .int v3)] [] σ (K9 v1 v2 v3 σ)) (v1 : Int32) (v3 : Int32) (s0 : Int32) (σ : ST) : WW y l E 4 (fun a => QM y E (xI a)) 34 [(0, .ref (ad y 13)), (1, .int v1), (3, .int v3)] [.int s0] σ (T_X3_outOf_j34 K9  v1 v3 s0 σ) := by
  unfold T_X3_outOf_j34
  refine r_istore_n (pc := 34) (lv' := [(2, .int _), (0, .ref _), (1, .int _), (3, .int _)]) X dX3_outOf_34 rfl (by decide) rfl ?_
  refine r_aload_n (pc := 35) X dX3_outOf_35 1 rfl rfl ?_
  refine r_iconst (pc := 36) X dX3_outOf_36 kc_0 ?_
  refine r_callvV (pc := 37) X dX3_outOf_37 cf_X3_goesHour ml_X3_130 (rf rfl rfl) hy oc_13.1 hc_3 (fun b hb => m_X3_goesHour hb) rfl rfl (Nat.le_of_ble_eq_true rfl) (fun σ2 => ?_)
  refine r_iinc (pc := 40) (lv' := [(2, .int _), (0, .ref _), (1, .int _)]) X dX3_outOf_40 3 rfl (congrArg (fun z => v3 + z) kc_1) (by decide) rfl (fun x3 => ?_)
  refine r_goto (pc := 43) (tgt := 9) X dX3_outOf_43 (by decide) ?_
  refine r_sub [2, 3, 1, 0] rfl ?_
  exact hK9 v1 s0 x3 σ2

set_option maxRecDepth 100000 in
theorem s_X3_outOf_j46 {y : LY} {l : Launch} {E : ET} (X : CX y l E cX3_outOf 4 RX3 (rmd 6)) (Z : ZX E (some .int)) (hy : y.1 ≤ (eS E).heap.size)     (v2 : Int32) (σ : ST) : WW y l E 4 (fun a => QM y E (xI a)) 46 [(0, .ref (ad y 13)), (2, .int v2)] [] σ (T_X3_outOf_j46   v2 σ) := by
  unfold T_X3_outOf_j46
  refine r_aload_n (pc := 46) X dX3_outOf_46 0 rfl rfl ?_
  refine r_callvV (pc := 47) X dX3_outOf_47 cf_X3_forgets ml_X3_241 (rf rfl rfl) hy oc_13.1 hc_3 (fun b hb => m_X3_forgets hb) rfl rfl (Nat.le_of_ble_eq_true rfl) (fun σ2 => ?_)
  refine r_iload_n (pc := 50) X dX3_outOf_50 1 rfl rfl ?_
  exact r_iret (pc := 51) X Z dX3_outOf_51 rfl

set_option maxRecDepth 100000 in
theorem s_X3_outOf_L9 {y : LY} {l : Launch} {E : ET} (X : CX y l E cX3_outOf 4 RX3 (rmd 6)) (Z : ZX E (some .int)) (hy : y.1 ≤ (eS E).heap.size)     (n : Nat) : ∀ (v1 : Int32) (v2 : Int32) (v3 : Int32) (σ : ST), WW y l E 4 (fun a => QM y E (xI a)) 9 [(0, .ref (ad y 13)), (1, .int v1), (2, .int v2), (3, .int v3)] [] σ (T_X3_outOf_L9  n v1 v2 v3 σ) := by
  induction n with
  | zero => intros; exact r_none rfl
  | succ n ih =>
    intro v1 v2 v3 σ
    unfold T_X3_outOf_L9
    refine r_iload_n (pc := 9) X dX3_outOf_9 3 rfl rfl ?_
    refine r_bipush (pc := 10) X dX3_outOf_10 kb_60 ?_
    refine r_icmp_gt (pc := 12) (tgt := 46) X dX3_outOf_12 (by decide) ?_ ?_
    · refine r_sub [0, 2] rfl ?_
      exact s_X3_outOf_j46 X Z hy v2 σ
    · refine r_iload_n (pc := 15) X dX3_outOf_15 2 rfl rfl ?_
      refine r_if_ge (pc := 16) (tgt := 46) X dX3_outOf_16 (by decide) ?_ ?_
      · refine r_sub [0, 2] rfl ?_
        exact s_X3_outOf_j46 X Z hy v2 σ
      · refine r_aload_n (pc := 19) X dX3_outOf_19 0 rfl rfl ?_
        refine r_geta (pc := 20) X dX3_outOf_20 fl_X3_40 oc_13 (by decide) ?_
        refine r_iload_n (pc := 23) X dX3_outOf_23 1 rfl rfl ?_
        refine r_iald (pc := 24) X dX3_outOf_24 ar_13_10 (fun x1 => ?_)
        refine r_if_ne (pc := 25) (tgt := 32) X dX3_outOf_25 (by decide) ?_ ?_
        · refine r_bipush (pc := 32) X dX3_outOf_32 kb_m9 ?_
          refine r_sub [0, 1, 3] rfl ?_
          exact s_X3_outOf_j34 X Z hy (fun v1 v2 v3 s => ih v1 v2 v3 s) v1 v3 ((-9)) σ
        · refine r_iload_n (pc := 28) X dX3_outOf_28 3 rfl rfl ?_
          refine r_goto (pc := 29) (tgt := 34) X dX3_outOf_29 (by decide) ?_
          refine r_sub [0, 1, 3] rfl ?_
          exact s_X3_outOf_j34 X Z hy (fun v1 v2 v3 s => ih v1 v2 v3 s) v1 v3 v3 σ

set_option maxRecDepth 100000 in
theorem m_X3_outOf {y : LY} {l : Launch}  {a0 : Int32} {σ : ST} {a : (Int32 × ST)} (h : T_X3_outOf a0 σ = some a) : MU y l yX3_outOf cX3_outOf 4 (some .int) (rmd 6) [.ref (ad y 13), .int a0] σ (xI a) := by
  refine MU.of (φ := xI) h (by decide +kernel) rfl (fun E X Z hy => ?_)
  have X : CX y l E cX3_outOf 4 RX3 (rmd 6) := X
  show WW y l E 4 _ 0 [(0, .ref (ad y 13)), (1, .int a0)] [] σ (T_X3_outOf a0 σ)
  unfold T_X3_outOf
  refine r_aload_n (pc := 0) X dX3_outOf_0 0 rfl rfl ?_
  refine r_callvV (pc := 1) X dX3_outOf_1 cf_X3_thinks ml_X3_238 (rf rfl rfl) hy oc_13.1 hc_3 (fun b hb => m_X3_thinks hb) rfl rfl (Nat.le_of_ble_eq_true rfl) (fun σ2 => ?_)
  refine r_bipush (pc := 4) X dX3_outOf_4 kb_m9 ?_
  refine r_istore_n (pc := 6) (lv' := [(2, .int _), (0, .ref _), (1, .int _)]) X dX3_outOf_6 rfl (by decide) rfl ?_
  refine r_iconst (pc := 7) X dX3_outOf_7 kc_0 ?_
  refine r_istore_n (pc := 8) (lv' := [(3, .int _), (2, .int _), (0, .ref _), (1, .int _)]) X dX3_outOf_8 rfl (by decide) rfl ?_
  refine r_sub [2, 3, 1, 0] rfl ?_
  exact s_X3_outOf_L9 X Z hy FU a0 ((-9)) 0 σ2

set_option maxRecDepth 100000 in
theorem s_X3_breathless_L34 {y : LY} {l : Launch} {E : ET} (X : CX y l E cX3_breathless 4 RX3 (rmd 7)) (Z : ZX E (some .int)) (hy : y.1 ≤ (eS E).heap.size)     (n : Nat) : ∀ (v2 : Int32) (v3 : Int32) (σ : ST), WW y l E 4 (fun a => QM y E (xI a)) 34 [(0, .ref (ad y 13)), (2, .int v2), (3, .int v3)] [] σ (T_X3_breathless_L34  n v2 v3 σ) := by
  induction n with
  | zero => intros; exact r_none rfl
  | succ n ih =>
    intro v2 v3 σ
    unfold T_X3_breathless_L34
    refine r_iload_n (pc := 34) X dX3_breathless_34 2 rfl rfl ?_
    refine r_aload_n (pc := 35) X dX3_breathless_35 0 rfl rfl ?_
    refine r_geti (pc := 36) X dX3_breathless_36 fl_X3_88 oc_13 rfl (fun x1 => ?_)
    refine r_icmp_ge (pc := 39) (tgt := 75) X dX3_breathless_39 (by decide) ?_ ?_
    · refine r_iload_n (pc := 75) X dX3_breathless_75 1 rfl rfl ?_
      exact r_iret (pc := 76) X Z dX3_breathless_76 rfl
    · refine r_aload_n (pc := 42) X dX3_breathless_42 0 rfl rfl ?_
      refine r_iload_n (pc := 43) X dX3_breathless_43 2 rfl rfl ?_
      refine r_callvI (pc := 44) X dX3_breathless_44 cf_X3_outOf ml_X3_253 (rf rfl rfl) hy oc_13.1 hc_3 (fun b hb => m_X3_outOf hb) rfl rfl (Nat.le_of_ble_eq_true rfl) (fun x2 σ3 => ?_)
      refine r_if_lt (pc := 47) (tgt := 69) X dX3_breathless_47 (by decide) ?_ ?_
      · refine r_iinc (pc := 69) (lv' := [(0, .ref _), (2, .int _)]) X dX3_breathless_69 2 rfl (congrArg (fun z => v3 + z) kc_1) (by decide) rfl (fun x4 => ?_)
        refine r_goto (pc := 72) (tgt := 34) X dX3_breathless_72 (by decide) ?_
        refine r_sub [1, 2, 0] rfl ?_
        exact ih v2 x4 σ3
      · refine r_iload_n (pc := 50) X dX3_breathless_50 1 rfl rfl ?_
        refine r_if_lt (pc := 51) (tgt := 67) X dX3_breathless_51 (by decide) ?_ ?_
        · refine r_iload_n (pc := 67) X dX3_breathless_67 2 rfl rfl ?_
          refine r_istore_n (pc := 68) (lv' := [(2, .int _), (0, .ref _), (3, .int _)]) X dX3_breathless_68 rfl (by decide) rfl ?_
          refine r_iinc (pc := 69) (lv' := [(2, .int _), (0, .ref _)]) X dX3_breathless_69 2 rfl (congrArg (fun z => v3 + z) kc_1) (by decide) rfl (fun x5 => ?_)
          refine r_goto (pc := 72) (tgt := 34) X dX3_breathless_72 (by decide) ?_
          refine r_sub [2, 1, 0] rfl ?_
          exact ih v3 x5 σ3
        · refine r_aload_n (pc := 54) X dX3_breathless_54 0 rfl rfl ?_
          refine r_iload_n (pc := 55) X dX3_breathless_55 2 rfl rfl ?_
          refine r_callvI (pc := 56) X dX3_breathless_56 cf_X3_outOf ml_X3_253 (rf rfl rfl) hy oc_13.1 hc_3 (fun b hb => m_X3_outOf hb) rfl rfl (Nat.le_of_ble_eq_true rfl) (fun x6 σ7 => ?_)
          refine r_aload_n (pc := 59) X dX3_breathless_59 0 rfl rfl ?_
          refine r_iload_n (pc := 60) X dX3_breathless_60 1 rfl rfl ?_
          refine r_callvI (pc := 61) X dX3_breathless_61 cf_X3_outOf ml_X3_253 (rf rfl rfl) hy oc_13.1 hc_3 (fun b hb => m_X3_outOf hb) rfl rfl (Nat.le_of_ble_eq_true rfl) (fun x8 σ9 => ?_)
          refine r_icmp_ge (pc := 64) (tgt := 69) X dX3_breathless_64 (by decide) ?_ ?_
          · refine r_iinc (pc := 69) (lv' := [(0, .ref _), (2, .int _)]) X dX3_breathless_69 2 rfl (congrArg (fun z => v3 + z) kc_1) (by decide) rfl (fun x10 => ?_)
            refine r_goto (pc := 72) (tgt := 34) X dX3_breathless_72 (by decide) ?_
            refine r_sub [1, 2, 0] rfl ?_
            exact ih v2 x10 σ9
          · refine r_iload_n (pc := 67) X dX3_breathless_67 2 rfl rfl ?_
            refine r_istore_n (pc := 68) (lv' := [(2, .int _), (0, .ref _), (3, .int _)]) X dX3_breathless_68 rfl (by decide) rfl ?_
            refine r_iinc (pc := 69) (lv' := [(2, .int _), (0, .ref _)]) X dX3_breathless_69 2 rfl (congrArg (fun z => v3 + z) kc_1) (by decide) rfl (fun x11 => ?_)
            refine r_goto (pc := 72) (tgt := 34) X dX3_breathless_72 (by decide) ?_
            refine r_sub [2, 1, 0] rfl ?_
            exact ih v3 x11 σ9

set_option maxRecDepth 100000 in
theorem s_X3_breathless_j19 {y : LY} {l : Launch} {E : ET} (X : CX y l E cX3_breathless 4 RX3 (rmd 7)) (Z : ZX E (some .int)) (hy : y.1 ≤ (eS E).heap.size)     (v1 : Int32) (σ : ST) : WW y l E 4 (fun a => QM y E (xI a)) 19 [(0, .ref (ad y 13)), (1, .int v1)] [] σ (T_X3_breathless_j19   v1 σ) := by
  unfold T_X3_breathless_j19
  refine r_iload_n (pc := 19) X dX3_breathless_19 1 rfl rfl ?_
  refine r_if_lt (pc := 20) (tgt := 29) X dX3_breathless_20 (by decide) ?_ ?_
  · refine r_bipush (pc := 29) X dX3_breathless_29 kb_m9 ?_
    refine r_istore_n (pc := 31) (lv' := [(2, .int _), (0, .ref _), (1, .int _)]) X dX3_breathless_31 rfl (by decide) rfl ?_
    refine r_iconst (pc := 32) X dX3_breathless_32 kc_0 ?_
    refine r_istore_n (pc := 33) (lv' := [(3, .int _), (2, .int _), (0, .ref _), (1, .int _)]) X dX3_breathless_33 rfl (by decide) rfl ?_
    refine r_sub [2, 1, 0] rfl ?_
    exact s_X3_breathless_L34 X Z hy FU ((-9)) 0 σ
  · refine r_aload_n (pc := 23) X dX3_breathless_23 0 rfl rfl ?_
    refine r_iload_n (pc := 24) X dX3_breathless_24 1 rfl rfl ?_
    refine r_callvI (pc := 25) X dX3_breathless_25 cf_X3_outOf ml_X3_253 (rf rfl rfl) hy oc_13.1 hc_3 (fun b hb => m_X3_outOf hb) rfl rfl (Nat.le_of_ble_eq_true rfl) (fun x1 σ2 => ?_)
    exact r_iret (pc := 28) X Z dX3_breathless_28 rfl

set_option maxRecDepth 100000 in
theorem m_X3_breathless {y : LY} {l : Launch}  {a0 : Int32} {σ : ST} {a : (Int32 × ST)} (h : T_X3_breathless a0 σ = some a) : MU y l yX3_breathless cX3_breathless 4 (some .int) (rmd 7) [.ref (ad y 13), .int a0] σ (xI a) := by
  refine MU.of (φ := xI) h (by decide +kernel) rfl (fun E X Z hy => ?_)
  have X : CX y l E cX3_breathless 4 RX3 (rmd 7) := X
  show WW y l E 4 _ 0 [(0, .ref (ad y 13)), (1, .int a0)] [] σ (T_X3_breathless a0 σ)
  unfold T_X3_breathless
  refine r_iload_n (pc := 0) X dX3_breathless_0 1 rfl rfl ?_
  refine r_iconst (pc := 1) X dX3_breathless_1 kc_m1 ?_
  refine r_icmp_eq (pc := 2) (tgt := 19) X dX3_breathless_2 (by decide) ?_ ?_
  · exact s_X3_breathless_j19 X Z hy a0 σ
  · refine r_aload_n (pc := 5) X dX3_breathless_5 0 rfl rfl ?_
    refine r_iload_n (pc := 6) X dX3_breathless_6 1 rfl rfl ?_
    refine r_callvp (pc := 7) X dX3_breathless_7 cf_X3_isBearer ml_X3_91 (rf rfl rfl) hy oc_13.1 hc_3 (fun b hb => m_X3_isBearer hb) rfl rfl (Nat.le_of_ble_eq_true rfl) (fun x1 => ?_)
    refine r_if_ne (pc := 10) (tgt := 19) X dX3_breathless_10 (by decide) ?_ ?_
    · exact s_X3_breathless_j19 X Z hy a0 σ
    · refine r_aload_n (pc := 13) X dX3_breathless_13 0 rfl rfl ?_
      refine r_iconst (pc := 14) X dX3_breathless_14 kc_m1 ?_
      refine r_callvI (pc := 15) X dX3_breathless_15 cf_X3_no ml_X3_102 (rf rfl rfl) hy oc_13.1 hc_3 (fun b hb => m_X3_no hb) rfl rfl (Nat.le_of_ble_eq_true rfl) (fun x3 σ4 => ?_)
      exact r_iret (pc := 18) X Z dX3_breathless_18 rfl

set_option maxRecDepth 100000 in
theorem m_X3_snapsIn {y : LY} {l : Launch}  {a0 : Int32} {σ : ST} {a : (Int32 × ST)} (h : T_X3_snapsIn a0 σ = some a) : MU y l yX3_snapsIn cX3_snapsIn 2 (some .int) (rmd 7) [.ref (ad y 13), .int a0] σ (xI a) := by
  refine MU.of (φ := xI) h (by decide +kernel) rfl (fun E X Z hy => ?_)
  have X : CX y l E cX3_snapsIn 2 RX3 (rmd 7) := X
  show WW y l E 2 _ 0 [(0, .ref (ad y 13)), (1, .int a0)] [] σ (T_X3_snapsIn a0 σ)
  unfold T_X3_snapsIn
  refine r_aload_n (pc := 0) X dX3_snapsIn_0 0 rfl rfl ?_
  refine r_callvV (pc := 1) X dX3_snapsIn_1 cf_X3_thinks ml_X3_238 (rf rfl rfl) hy oc_13.1 hc_3 (fun b hb => m_X3_thinks hb) rfl rfl (Nat.le_of_ble_eq_true rfl) (fun σ2 => ?_)
  refine r_aload_n (pc := 4) X dX3_snapsIn_4 0 rfl rfl ?_
  refine r_callvV (pc := 5) X dX3_snapsIn_5 cf_X3_counts ml_X3_229 (rf rfl rfl) hy oc_13.1 hc_3 (fun b hb => m_X3_counts hb) rfl rfl (Nat.le_of_ble_eq_true rfl) (fun σ4 => ?_)
  refine r_aload_n (pc := 8) X dX3_snapsIn_8 0 rfl rfl ?_
  refine r_iload_n (pc := 9) X dX3_snapsIn_9 1 rfl rfl ?_
  refine r_callvV (pc := 10) X dX3_snapsIn_10 cf_X3_goes ml_X3_232 (rf rfl rfl) hy oc_13.1 hc_3 (fun b hb => m_X3_goes hb) rfl rfl (Nat.le_of_ble_eq_true rfl) (fun σ6 => ?_)
  refine r_aload_n (pc := 13) X dX3_snapsIn_13 0 rfl rfl ?_
  refine r_callvV (pc := 14) X dX3_snapsIn_14 cf_X3_forgets ml_X3_241 (rf rfl rfl) hy oc_13.1 hc_3 (fun b hb => m_X3_forgets hb) rfl rfl (Nat.le_of_ble_eq_true rfl) (fun σ8 => ?_)
  refine r_aload_n (pc := 17) X dX3_snapsIn_17 0 rfl rfl ?_
  refine r_geti (pc := 18) X dX3_snapsIn_18 fl_X3_217 oc_13 rfl (fun x9 => ?_)
  exact r_iret (pc := 21) X Z dX3_snapsIn_21 rfl

set_option maxRecDepth 100000 in
theorem s_X3_bestColonel_L15 {y : LY} {l : Launch} {E : ET} (X : CX y l E cX3_bestColonel 7 RX3 (rmd 8)) (Z : ZX E (some .int)) (hy : y.1 ≤ (eS E).heap.size)     (n : Nat) : ∀ (v1 : Int32) (v2 : Int32) (v3 : Int32) (v4 : Int32) (v5 : Int32) (σ : ST), WW y l E 7 (fun a => QM y E (xI a)) 15 [(0, .ref (ad y 13)), (1, .int v1), (2, .int v2), (3, .int v3), (4, .int v4), (5, .int v5)] [] σ (T_X3_bestColonel_L15  n v1 v2 v3 v4 v5 σ) := by
  induction n with
  | zero => intros; exact r_none rfl
  | succ n ih =>
    intro v1 v2 v3 v4 v5 σ
    unfold T_X3_bestColonel_L15
    refine r_iload (pc := 15) X dX3_bestColonel_15 5 rfl ?_
    refine r_bipush (pc := 17) X dX3_bestColonel_17 kb_10 ?_
    refine r_icmp_ge (pc := 19) (tgt := 58) X dX3_bestColonel_19 (by decide) ?_ ?_
    · refine r_aload_n (pc := 58) X dX3_bestColonel_58 0 rfl rfl ?_
      refine r_iload_n (pc := 59) X dX3_bestColonel_59 2 rfl rfl ?_
      refine r_puti (pc := 60) X dX3_bestColonel_60 fl_X3_151 fw_3_14 oc_13 rfl (fun σ1 => ?_)
      refine r_iload_n (pc := 63) X dX3_bestColonel_63 3 rfl rfl ?_
      exact r_iret (pc := 64) X Z dX3_bestColonel_64 rfl
    · refine r_aload_n (pc := 22) X dX3_bestColonel_22 0 rfl rfl ?_
      refine r_iload (pc := 23) X dX3_bestColonel_23 5 rfl ?_
      refine r_puti (pc := 25) X dX3_bestColonel_25 fl_X3_151 fw_3_14 oc_13 rfl (fun σ2 => ?_)
      refine r_aload_n (pc := 28) X dX3_bestColonel_28 0 rfl rfl ?_
      refine r_iload_n (pc := 29) X dX3_bestColonel_29 1 rfl rfl ?_
      refine r_callvI (pc := 30) X dX3_bestColonel_30 cf_X3_snapsIn ml_X3_256 (rf rfl rfl) hy oc_13.1 hc_3 (fun b hb => m_X3_snapsIn hb) rfl rfl (Nat.le_of_ble_eq_true rfl) (fun x3 σ4 => ?_)
      refine r_istore (pc := 33) (lv' := [(6, .int _), (0, .ref _), (1, .int _), (2, .int _), (3, .int _), (4, .int _), (5, .int _)]) X dX3_bestColonel_33 (by decide) rfl ?_
      refine r_iload (pc := 35) X dX3_bestColonel_35 0 rfl ?_
      refine r_iload (pc := 37) X dX3_bestColonel_37 5 rfl ?_
      refine r_icmp_lt (pc := 39) (tgt := 45) X dX3_bestColonel_39 (by decide) ?_ ?_
      · refine r_iload (pc := 45) X dX3_bestColonel_45 6 rfl ?_
        refine r_istore_n (pc := 47) (lv' := [(3, .int _), (6, .int _), (0, .ref _), (1, .int _), (2, .int _), (4, .int _), (5, .int _)]) X dX3_bestColonel_47 rfl (by decide) rfl ?_
        refine r_iload (pc := 48) X dX3_bestColonel_48 1 rfl ?_
        refine r_istore (pc := 50) (lv' := [(4, .int _), (3, .int _), (6, .int _), (0, .ref _), (1, .int _), (2, .int _), (5, .int _)]) X dX3_bestColonel_50 (by decide) rfl ?_
        refine r_iinc (pc := 52) (lv' := [(4, .int _), (3, .int _), (6, .int _), (0, .ref _), (1, .int _), (2, .int _)]) X dX3_bestColonel_52 6 rfl (congrArg (fun z => v5 + z) kc_1) (by decide) rfl (fun x5 => ?_)
        refine r_goto (pc := 55) (tgt := 15) X dX3_bestColonel_55 (by decide) ?_
        refine r_sub [4, 5, 6, 2, 1, 0] rfl ?_
        exact ih v1 v2 v5 x3 x5 σ4
      · refine r_goto (pc := 42) (tgt := 52) X dX3_bestColonel_42 (by decide) ?_
        refine r_iinc (pc := 52) (lv' := [(6, .int _), (0, .ref _), (1, .int _), (2, .int _), (3, .int _), (4, .int _)]) X dX3_bestColonel_52 6 rfl (congrArg (fun z => v5 + z) kc_1) (by decide) rfl (fun x6 => ?_)
        refine r_goto (pc := 55) (tgt := 15) X dX3_bestColonel_55 (by decide) ?_
        refine r_sub [2, 3, 4, 5, 6, 0] rfl ?_
        exact ih v1 v2 v3 v4 x6 σ4

set_option maxRecDepth 100000 in
theorem m_X3_bestColonel {y : LY} {l : Launch}  {a0 : Int32} {σ : ST} {a : (Int32 × ST)} (h : T_X3_bestColonel a0 σ = some a) : MU y l yX3_bestColonel cX3_bestColonel 7 (some .int) (rmd 8) [.ref (ad y 13), .int a0] σ (xI a) := by
  refine MU.of (φ := xI) h (by decide +kernel) rfl (fun E X Z hy => ?_)
  have X : CX y l E cX3_bestColonel 7 RX3 (rmd 8) := X
  show WW y l E 7 _ 0 [(0, .ref (ad y 13)), (1, .int a0)] [] σ (T_X3_bestColonel a0 σ)
  unfold T_X3_bestColonel
  refine r_aload_n (pc := 0) X dX3_bestColonel_0 0 rfl rfl ?_
  refine r_geti (pc := 1) X dX3_bestColonel_1 fl_X3_151 oc_13 rfl (fun x1 => ?_)
  refine r_istore_n (pc := 4) (lv' := [(2, .int _), (0, .ref _), (1, .int _)]) X dX3_bestColonel_4 rfl (by decide) rfl ?_
  refine r_iconst (pc := 5) X dX3_bestColonel_5 kc_0 ?_
  refine r_istore_n (pc := 6) (lv' := [(3, .int _), (2, .int _), (0, .ref _), (1, .int _)]) X dX3_bestColonel_6 rfl (by decide) rfl ?_
  refine r_sipush (pc := 7) X dX3_bestColonel_7 ks_1000 ?_
  refine r_istore (pc := 10) (lv' := [(4, .int _), (3, .int _), (2, .int _), (0, .ref _), (1, .int _)]) X dX3_bestColonel_10 (by decide) rfl ?_
  refine r_iconst (pc := 12) X dX3_bestColonel_12 kc_0 ?_
  refine r_istore (pc := 13) (lv' := [(5, .int _), (4, .int _), (3, .int _), (2, .int _), (0, .ref _), (1, .int _)]) X dX3_bestColonel_13 (by decide) rfl ?_
  refine r_sub [4, 5, 3, 2, 1, 0] rfl ?_
  exact s_X3_bestColonel_L15 X Z hy FU a0 x1 0 1000 0 σ

set_option maxRecDepth 100000 in
theorem s_X3_leastLed_L22 {y : LY} {l : Launch} {E : ET} (X : CX y l E cX3_leastLed 4 RX3 (rmd 8)) (Z : ZX E (some .int)) (hy : y.1 ≤ (eS E).heap.size)     (n : Nat) : ∀ (v2 : Int32) (v3 : Int32) (σ : ST), WW y l E 4 (fun a => QM y E (xI a)) 22 [(0, .ref (ad y 13)), (2, .int v2), (3, .int v3)] [] σ (T_X3_leastLed_L22  n v2 v3 σ) := by
  induction n with
  | zero => intros; exact r_none rfl
  | succ n ih =>
    intro v2 v3 σ
    unfold T_X3_leastLed_L22
    refine r_iload_n (pc := 22) X dX3_leastLed_22 2 rfl rfl ?_
    refine r_aload_n (pc := 23) X dX3_leastLed_23 0 rfl rfl ?_
    refine r_geti (pc := 24) X dX3_leastLed_24 fl_X3_88 oc_13 rfl (fun x1 => ?_)
    refine r_icmp_ge (pc := 27) (tgt := 57) X dX3_leastLed_27 (by decide) ?_ ?_
    · refine r_iload_n (pc := 57) X dX3_leastLed_57 1 rfl rfl ?_
      exact r_iret (pc := 58) X Z dX3_leastLed_58 rfl
    · refine r_aload_n (pc := 30) X dX3_leastLed_30 0 rfl rfl ?_
      refine r_geta (pc := 31) X dX3_leastLed_31 fl_X3_58 oc_13 (by decide) ?_
      refine r_iload_n (pc := 34) X dX3_leastLed_34 2 rfl rfl ?_
      refine r_iald (pc := 35) X dX3_leastLed_35 ar_13_27 (fun x2 => ?_)
      refine r_aload_n (pc := 36) X dX3_leastLed_36 0 rfl rfl ?_
      refine r_geta (pc := 37) X dX3_leastLed_37 fl_X3_58 oc_13 (by decide) ?_
      refine r_iload_n (pc := 40) X dX3_leastLed_40 1 rfl rfl ?_
      refine r_iald (pc := 41) X dX3_leastLed_41 ar_13_27 (fun x3 => ?_)
      refine r_icmp_ge (pc := 42) (tgt := 49) X dX3_leastLed_42 (by decide) ?_ ?_
      · refine r_iload_n (pc := 49) X dX3_leastLed_49 1 rfl rfl ?_
        refine r_istore_n (pc := 50) (lv' := [(2, .int _), (0, .ref _), (3, .int _)]) X dX3_leastLed_50 rfl (by decide) rfl ?_
        refine r_iinc (pc := 51) (lv' := [(2, .int _), (0, .ref _)]) X dX3_leastLed_51 2 rfl (congrArg (fun z => v3 + z) kc_1) (by decide) rfl (fun x4 => ?_)
        refine r_goto (pc := 54) (tgt := 22) X dX3_leastLed_54 (by decide) ?_
        refine r_sub [2, 1, 0] rfl ?_
        exact ih v2 x4 σ
      · refine r_iload_n (pc := 45) X dX3_leastLed_45 2 rfl rfl ?_
        refine r_goto (pc := 46) (tgt := 50) X dX3_leastLed_46 (by decide) ?_
        refine r_istore_n (pc := 50) (lv' := [(2, .int _), (0, .ref _), (3, .int _)]) X dX3_leastLed_50 rfl (by decide) rfl ?_
        refine r_iinc (pc := 51) (lv' := [(2, .int _), (0, .ref _)]) X dX3_leastLed_51 2 rfl (congrArg (fun z => v3 + z) kc_1) (by decide) rfl (fun x5 => ?_)
        refine r_goto (pc := 54) (tgt := 22) X dX3_leastLed_54 (by decide) ?_
        refine r_sub [2, 1, 0] rfl ?_
        exact ih v3 x5 σ

set_option maxRecDepth 100000 in
theorem m_X3_leastLed {y : LY} {l : Launch}  {a0 : Int32} {σ : ST} {a : (Int32 × ST)} (h : T_X3_leastLed a0 σ = some a) : MU y l yX3_leastLed cX3_leastLed 4 (some .int) (rmd 8) [.ref (ad y 13), .int a0] σ (xI a) := by
  refine MU.of (φ := xI) h (by decide +kernel) rfl (fun E X Z hy => ?_)
  have X : CX y l E cX3_leastLed 4 RX3 (rmd 8) := X
  show WW y l E 4 _ 0 [(0, .ref (ad y 13)), (1, .int a0)] [] σ (T_X3_leastLed a0 σ)
  unfold T_X3_leastLed
  refine r_aload_n (pc := 0) X dX3_leastLed_0 0 rfl rfl ?_
  refine r_iload_n (pc := 1) X dX3_leastLed_1 1 rfl rfl ?_
  refine r_callvI (pc := 2) X dX3_leastLed_2 cf_X3_snapsIn ml_X3_256 (rf rfl rfl) hy oc_13.1 hc_3 (fun b hb => m_X3_snapsIn hb) rfl rfl (Nat.le_of_ble_eq_true rfl) (fun x1 σ2 => ?_)
  refine r_pop (pc := 5) X dX3_leastLed_5 rfl ?_
  refine r_aload_n (pc := 6) X dX3_leastLed_6 0 rfl rfl ?_
  refine r_geti (pc := 7) X dX3_leastLed_7 fl_X3_88 oc_13 rfl (fun x3 => ?_)
  refine r_if_ne (pc := 10) (tgt := 18) X dX3_leastLed_10 (by decide) ?_ ?_
  · refine r_iconst (pc := 18) X dX3_leastLed_18 kc_0 ?_
    refine r_istore_n (pc := 19) (lv' := [(2, .int _), (0, .ref _), (1, .int _)]) X dX3_leastLed_19 rfl (by decide) rfl ?_
    refine r_iconst (pc := 20) X dX3_leastLed_20 kc_1 ?_
    refine r_istore_n (pc := 21) (lv' := [(3, .int _), (2, .int _), (0, .ref _), (1, .int _)]) X dX3_leastLed_21 rfl (by decide) rfl ?_
    refine r_sub [2, 1, 0] rfl ?_
    exact s_X3_leastLed_L22 X Z hy FU 0 1 σ2
  · refine r_bipush (pc := 13) X dX3_leastLed_13 kb_m9 ?_
    refine r_goto (pc := 15) (tgt := 19) X dX3_leastLed_15 (by decide) ?_
    refine r_istore_n (pc := 19) (lv' := [(2, .int _), (0, .ref _), (1, .int _)]) X dX3_leastLed_19 rfl (by decide) rfl ?_
    refine r_iconst (pc := 20) X dX3_leastLed_20 kc_1 ?_
    refine r_istore_n (pc := 21) (lv' := [(3, .int _), (2, .int _), (0, .ref _), (1, .int _)]) X dX3_leastLed_21 rfl (by decide) rfl ?_
    refine r_sub [2, 1, 0] rfl ?_
    exact s_X3_leastLed_L22 X Z hy FU ((-9)) 1 σ2

set_option maxRecDepth 100000 in
theorem s_X3_snaps_j21 {y : LY} {l : Launch} {E : ET} (X : CX y l E cX3_snaps 4 RX3 (rmd 9)) (Z : ZX E (some .int)) (hy : y.1 ≤ (eS E).heap.size)     (v1 : Int32) (v2 : Int32) (v3 : Int32) (σ : ST) : WW y l E 4 (fun a => QM y E (xI a)) 21 [(0, .ref (ad y 13)), (1, .int v1), (2, .int v2), (3, .int v3)] [] σ (T_X3_snaps_j21   v1 v2 v3 σ) := by
  unfold T_X3_snaps_j21
  refine r_iload_n (pc := 21) X dX3_snaps_21 3 rfl rfl ?_
  refine r_if_eq (pc := 22) (tgt := 31) X dX3_snaps_22 (by decide) ?_ ?_
  · refine r_iload_n (pc := 31) X dX3_snaps_31 2 rfl rfl ?_
    refine r_if_ne (pc := 32) (tgt := 43) X dX3_snaps_32 (by decide) ?_ ?_
    · refine r_iload_n (pc := 43) X dX3_snaps_43 2 rfl rfl ?_
      refine r_iconst (pc := 44) X dX3_snaps_44 kc_1 ?_
      refine r_icmp_ne (pc := 45) (tgt := 56) X dX3_snaps_45 (by decide) ?_ ?_
      · refine r_aload_n (pc := 56) X dX3_snaps_56 0 rfl rfl ?_
        refine r_iload_n (pc := 57) X dX3_snaps_57 1 rfl rfl ?_
        refine r_callvI (pc := 58) X dX3_snaps_58 cf_X3_leastLed ml_X3_262 (rf rfl rfl) hy oc_13.1 hc_3 (fun b hb => m_X3_leastLed hb) rfl rfl (Nat.le_of_ble_eq_true rfl) (fun x1 σ2 => ?_)
        exact r_iret (pc := 61) X Z dX3_snaps_61 rfl
      · refine r_aload_n (pc := 48) X dX3_snaps_48 0 rfl rfl ?_
        refine r_iload_n (pc := 49) X dX3_snaps_49 1 rfl rfl ?_
        refine r_callvI (pc := 50) X dX3_snaps_50 cf_X3_bestColonel ml_X3_259 (rf rfl rfl) hy oc_13.1 hc_3 (fun b hb => m_X3_bestColonel hb) rfl rfl (Nat.le_of_ble_eq_true rfl) (fun x3 σ4 => ?_)
        refine r_goto (pc := 53) (tgt := 61) X dX3_snaps_53 (by decide) ?_
        exact r_iret (pc := 61) X Z dX3_snaps_61 rfl
    · refine r_aload_n (pc := 35) X dX3_snaps_35 0 rfl rfl ?_
      refine r_iload_n (pc := 36) X dX3_snaps_36 1 rfl rfl ?_
      refine r_callvI (pc := 37) X dX3_snaps_37 cf_X3_snapsIn ml_X3_256 (rf rfl rfl) hy oc_13.1 hc_3 (fun b hb => m_X3_snapsIn hb) rfl rfl (Nat.le_of_ble_eq_true rfl) (fun x5 σ6 => ?_)
      refine r_goto (pc := 40) (tgt := 61) X dX3_snaps_40 (by decide) ?_
      exact r_iret (pc := 61) X Z dX3_snaps_61 rfl
  · refine r_aload_n (pc := 25) X dX3_snaps_25 0 rfl rfl ?_
    refine r_iload_n (pc := 26) X dX3_snaps_26 3 rfl rfl ?_
    refine r_callvI (pc := 27) X dX3_snaps_27 cf_X3_no ml_X3_102 (rf rfl rfl) hy oc_13.1 hc_3 (fun b hb => m_X3_no hb) rfl rfl (Nat.le_of_ble_eq_true rfl) (fun x7 σ8 => ?_)
    exact r_iret (pc := 30) X Z dX3_snaps_30 rfl

set_option maxRecDepth 100000 in
theorem m_X3_snaps {y : LY} {l : Launch}  {a0 : Int32} {a1 : Int32} {σ : ST} {a : (Int32 × ST)} (h : T_X3_snaps a0 a1 σ = some a) : MU y l yX3_snaps cX3_snaps 4 (some .int) (rmd 9) [.ref (ad y 13), .int a0, .int a1] σ (xI a) := by
  refine MU.of (φ := xI) h (by decide +kernel) rfl (fun E X Z hy => ?_)
  have X : CX y l E cX3_snaps 4 RX3 (rmd 9) := X
  show WW y l E 4 _ 0 [(0, .ref (ad y 13)), (1, .int a0), (2, .int a1)] [] σ (T_X3_snaps a0 a1 σ)
  unfold T_X3_snaps
  refine r_iload_n (pc := 0) X dX3_snaps_0 1 rfl rfl ?_
  refine r_callsp (pc := 1) X dX3_snaps_1 cf_X3_notHours ml_X3_235 (rf rfl rfl) hy (fun b hb => m_X3_notHours hb) rfl rfl (Nat.le_of_ble_eq_true rfl) (fun x1 => ?_)
  refine r_istore_n (pc := 4) (lv' := [(3, .int _), (0, .ref _), (1, .int _), (2, .int _)]) X dX3_snaps_4 rfl (by decide) rfl ?_
  refine r_iload_n (pc := 5) X dX3_snaps_5 0 rfl rfl ?_
  refine r_if_ne (pc := 6) (tgt := 21) X dX3_snaps_6 (by decide) ?_ ?_
  · refine r_sub [1, 2, 3, 0] rfl ?_
    exact s_X3_snaps_j21 X Z hy a0 a1 x1 σ
  · refine r_iload_n (pc := 9) X dX3_snaps_9 3 rfl rfl ?_
    refine r_iconst (pc := 10) X dX3_snaps_10 kc_0 ?_
    refine r_iconst (pc := 11) X dX3_snaps_11 kc_2 ?_
    refine r_callsp (pc := 12) X dX3_snaps_12 cf_X3_isIn ml_X3_113 (rf rfl rfl) hy (fun b hb => m_X3_isIn hb) rfl rfl (Nat.le_of_ble_eq_true rfl) (fun x3 => ?_)
    refine r_if_ne (pc := 15) (tgt := 21) X dX3_snaps_15 (by decide) ?_ ?_
    · refine r_sub [1, 2, 3, 0] rfl ?_
      exact s_X3_snaps_j21 X Z hy a0 a1 x1 σ
    · refine r_bipush (pc := 18) X dX3_snaps_18 kb_m2 ?_
      refine r_istore_n (pc := 20) (lv' := [(3, .int _), (0, .ref _), (1, .int _), (2, .int _)]) X dX3_snaps_20 rfl (by decide) rfl ?_
      refine r_sub [1, 2, 3, 0] rfl ?_
      exact s_X3_snaps_j21 X Z hy a0 a1 ((-2)) σ

set_option maxRecDepth 100000 in
theorem s_X3_comesTo_j39 {y : LY} {l : Launch} {E : ET} (X : CX y l E cX3_comesTo 6 RX3 (rmd 6)) (Z : ZX E (some .int)) (hy : y.1 ≤ (eS E).heap.size)   {K11 : Int32 → Int32 → Int32 → Int32 → Int32 → ST → Option (Int32 × ST)} (hK11 : ∀ (v1 : Int32) (v2 : Int32) (v3 : Int32) (v4 : Int32) (v5 : Int32) (σ : ST), WW y l E 6 (fun a => QM y E (xI a)) 11 [(0, .ref (ad y 13)), (1, .int v1), (2, .int v2), (3, .int v3), (4, .int v4), (5, .int v5)] [] σ (K11 v1 v2 v3 v4 v5 σ)) (v1 : Int32) (v2 : Int32) (v3 : Int32) (v5 : Int32) (s0 : Int32) (σ : ST) : WW y l E 6 (fun a => QM y E (xI a)) 39 [(0, .ref (ad y 13)), (1, .int v1), (2, .int v2), (3, .int v3), (5, .int v5)] [.int s0] σ (T_X3_comesTo_j39 K11  v1 v2 v3 v5 s0 σ) := by
  unfold T_X3_comesTo_j39
  refine r_istore (pc := 39) (lv' := [(4, .int _), (0, .ref _), (1, .int _), (2, .int _), (3, .int _), (5, .int _)]) X dX3_comesTo_39 (by decide) rfl ?_
  refine r_aload_n (pc := 41) X dX3_comesTo_41 1 rfl rfl ?_
  refine r_iconst (pc := 42) X dX3_comesTo_42 kc_0 ?_
  refine r_callvV (pc := 43) X dX3_comesTo_43 cf_X3_goesHour ml_X3_130 (rf rfl rfl) hy oc_13.1 hc_3 (fun b hb => m_X3_goesHour hb) rfl rfl (Nat.le_of_ble_eq_true rfl) (fun σ2 => ?_)
  refine r_iinc (pc := 46) (lv' := [(4, .int _), (0, .ref _), (1, .int _), (2, .int _), (3, .int _)]) X dX3_comesTo_46 5 rfl (congrArg (fun z => v5 + z) kc_1) (by decide) rfl (fun x3 => ?_)
  refine r_goto (pc := 49) (tgt := 11) X dX3_comesTo_49 (by decide) ?_
  refine r_sub [2, 3, 4, 5, 1, 0] rfl ?_
  exact hK11 v1 v2 v3 s0 x3 σ2

set_option maxRecDepth 100000 in
theorem s_X3_comesTo_j52 {y : LY} {l : Launch} {E : ET} (X : CX y l E cX3_comesTo 6 RX3 (rmd 6)) (Z : ZX E (some .int)) (hy : y.1 ≤ (eS E).heap.size)     (v4 : Int32) (σ : ST) : WW y l E 6 (fun a => QM y E (xI a)) 52 [(0, .ref (ad y 13)), (4, .int v4)] [] σ (T_X3_comesTo_j52   v4 σ) := by
  unfold T_X3_comesTo_j52
  refine r_aload_n (pc := 52) X dX3_comesTo_52 0 rfl rfl ?_
  refine r_callvV (pc := 53) X dX3_comesTo_53 cf_X3_forgets ml_X3_241 (rf rfl rfl) hy oc_13.1 hc_3 (fun b hb => m_X3_forgets hb) rfl rfl (Nat.le_of_ble_eq_true rfl) (fun σ2 => ?_)
  refine r_iload (pc := 56) X dX3_comesTo_56 1 rfl ?_
  exact r_iret (pc := 58) X Z dX3_comesTo_58 rfl

set_option maxRecDepth 100000 in
theorem s_X3_comesTo_L11 {y : LY} {l : Launch} {E : ET} (X : CX y l E cX3_comesTo 6 RX3 (rmd 6)) (Z : ZX E (some .int)) (hy : y.1 ≤ (eS E).heap.size)     (n : Nat) : ∀ (v1 : Int32) (v2 : Int32) (v3 : Int32) (v4 : Int32) (v5 : Int32) (σ : ST), WW y l E 6 (fun a => QM y E (xI a)) 11 [(0, .ref (ad y 13)), (1, .int v1), (2, .int v2), (3, .int v3), (4, .int v4), (5, .int v5)] [] σ (T_X3_comesTo_L11  n v1 v2 v3 v4 v5 σ) := by
  induction n with
  | zero => intros; exact r_none rfl
  | succ n ih =>
    intro v1 v2 v3 v4 v5 σ
    unfold T_X3_comesTo_L11
    refine r_iload (pc := 11) X dX3_comesTo_11 5 rfl ?_
    refine r_iload_n (pc := 13) X dX3_comesTo_13 3 rfl rfl ?_
    refine r_icmp_gt (pc := 14) (tgt := 52) X dX3_comesTo_14 (by decide) ?_ ?_
    · refine r_sub [0, 4] rfl ?_
      exact s_X3_comesTo_j52 X Z hy v4 σ
    · refine r_iload (pc := 17) X dX3_comesTo_17 4 rfl ?_
      refine r_if_ge (pc := 19) (tgt := 52) X dX3_comesTo_19 (by decide) ?_ ?_
      · refine r_sub [0, 4] rfl ?_
        exact s_X3_comesTo_j52 X Z hy v4 σ
      · refine r_aload_n (pc := 22) X dX3_comesTo_22 0 rfl rfl ?_
        refine r_geta (pc := 23) X dX3_comesTo_23 fl_X3_34 oc_13 (by decide) ?_
        refine r_iload_n (pc := 26) X dX3_comesTo_26 1 rfl rfl ?_
        refine r_iald (pc := 27) X dX3_comesTo_27 ar_13_8 (fun x1 => ?_)
        refine r_iload_n (pc := 28) X dX3_comesTo_28 2 rfl rfl ?_
        refine r_icmp_ne (pc := 29) (tgt := 37) X dX3_comesTo_29 (by decide) ?_ ?_
        · refine r_bipush (pc := 37) X dX3_comesTo_37 kb_m9 ?_
          refine r_sub [0, 1, 2, 3, 5] rfl ?_
          exact s_X3_comesTo_j39 X Z hy (fun v1 v2 v3 v4 v5 s => ih v1 v2 v3 v4 v5 s) v1 v2 v3 v5 ((-9)) σ
        · refine r_iload (pc := 32) X dX3_comesTo_32 5 rfl ?_
          refine r_goto (pc := 34) (tgt := 39) X dX3_comesTo_34 (by decide) ?_
          refine r_sub [0, 1, 2, 3, 5] rfl ?_
          exact s_X3_comesTo_j39 X Z hy (fun v1 v2 v3 v4 v5 s => ih v1 v2 v3 v4 v5 s) v1 v2 v3 v5 v5 σ

set_option maxRecDepth 100000 in
theorem m_X3_comesTo {y : LY} {l : Launch}  {a0 : Int32} {a1 : Int32} {a2 : Int32} {σ : ST} {a : (Int32 × ST)} (h : T_X3_comesTo a0 a1 a2 σ = some a) : MU y l yX3_comesTo cX3_comesTo 6 (some .int) (rmd 6) [.ref (ad y 13), .int a0, .int a1, .int a2] σ (xI a) := by
  refine MU.of (φ := xI) h (by decide +kernel) rfl (fun E X Z hy => ?_)
  have X : CX y l E cX3_comesTo 6 RX3 (rmd 6) := X
  show WW y l E 6 _ 0 [(0, .ref (ad y 13)), (1, .int a0), (2, .int a1), (3, .int a2)] [] σ (T_X3_comesTo a0 a1 a2 σ)
  unfold T_X3_comesTo
  refine r_aload_n (pc := 0) X dX3_comesTo_0 0 rfl rfl ?_
  refine r_callvV (pc := 1) X dX3_comesTo_1 cf_X3_thinks ml_X3_238 (rf rfl rfl) hy oc_13.1 hc_3 (fun b hb => m_X3_thinks hb) rfl rfl (Nat.le_of_ble_eq_true rfl) (fun σ2 => ?_)
  refine r_bipush (pc := 4) X dX3_comesTo_4 kb_m9 ?_
  refine r_istore (pc := 6) (lv' := [(4, .int _), (0, .ref _), (1, .int _), (2, .int _), (3, .int _)]) X dX3_comesTo_6 (by decide) rfl ?_
  refine r_iconst (pc := 8) X dX3_comesTo_8 kc_0 ?_
  refine r_istore (pc := 9) (lv' := [(5, .int _), (4, .int _), (0, .ref _), (1, .int _), (2, .int _), (3, .int _)]) X dX3_comesTo_9 (by decide) rfl ?_
  refine r_sub [2, 3, 4, 5, 1, 0] rfl ?_
  exact s_X3_comesTo_L11 X Z hy FU a0 a1 a2 ((-9)) 0 σ2

set_option maxRecDepth 100000 in
theorem m_X3_comesWith {y : LY} {l : Launch}  {a0 : Int32} {a1 : Int32} {a2 : Int32} {σ : ST} {a : (Int32 × ST)} (h : T_X3_comesWith a0 a1 a2 σ = some a) : MU y l yX3_comesWith cX3_comesWith 5 (some .int) (rmd 7) [.ref (ad y 13), .int a0, .int a1, .int a2] σ (xI a) := by
  refine MU.of (φ := xI) h (by decide +kernel) rfl (fun E X Z hy => ?_)
  have X : CX y l E cX3_comesWith 5 RX3 (rmd 7) := X
  show WW y l E 5 _ 0 [(0, .ref (ad y 13)), (1, .int a0), (2, .int a1), (3, .int a2)] [] σ (T_X3_comesWith a0 a1 a2 σ)
  unfold T_X3_comesWith
  refine r_aload_n (pc := 0) X dX3_comesWith_0 0 rfl rfl ?_
  refine r_iconst (pc := 1) X dX3_comesWith_1 kc_1 ?_
  refine r_iconst (pc := 2) X dX3_comesWith_2 kc_1 ?_
  refine r_callvV (pc := 3) X dX3_comesWith_3 cf_X3_passesAll ml_X3_161 (rf rfl rfl) hy oc_13.1 hc_3 (fun b hb => m_X3_passesAll hb) rfl rfl (Nat.le_of_ble_eq_true rfl) (fun σ2 => ?_)
  refine r_aload_n (pc := 6) X dX3_comesWith_6 0 rfl rfl ?_
  refine r_iload_n (pc := 7) X dX3_comesWith_7 2 rfl rfl ?_
  refine r_iload_n (pc := 8) X dX3_comesWith_8 1 rfl rfl ?_
  refine r_callvV (pc := 9) X dX3_comesWith_9 cf_X3_givesHer ml_X3_144 (rf rfl rfl) hy oc_13.1 hc_3 (fun b hb => m_X3_givesHer hb) rfl rfl (Nat.le_of_ble_eq_true rfl) (fun σ4 => ?_)
  refine r_aload_n (pc := 12) X dX3_comesWith_12 0 rfl rfl ?_
  refine r_iload_n (pc := 13) X dX3_comesWith_13 1 rfl rfl ?_
  refine r_iload_n (pc := 14) X dX3_comesWith_14 3 rfl rfl ?_
  refine r_bipush (pc := 15) X dX3_comesWith_15 kb_60 ?_
  refine r_callvI (pc := 17) X dX3_comesWith_17 cf_X3_comesTo ml_X3_265 (rf rfl rfl) hy oc_13.1 hc_3 (fun b hb => m_X3_comesTo hb) rfl rfl (Nat.le_of_ble_eq_true rfl) (fun x5 σ6 => ?_)
  refine r_istore (pc := 20) (lv' := [(4, .int _), (0, .ref _), (1, .int _), (2, .int _), (3, .int _)]) X dX3_comesWith_20 (by decide) rfl ?_
  refine r_aload_n (pc := 22) X dX3_comesWith_22 1 rfl rfl ?_
  refine r_iconst (pc := 23) X dX3_comesWith_23 kc_1 ?_
  refine r_iconst (pc := 24) X dX3_comesWith_24 kc_0 ?_
  refine r_callvV (pc := 25) X dX3_comesWith_25 cf_X3_passesAll ml_X3_161 (rf rfl rfl) hy oc_13.1 hc_3 (fun b hb => m_X3_passesAll hb) rfl rfl (Nat.le_of_ble_eq_true rfl) (fun σ8 => ?_)
  refine r_iload (pc := 28) X dX3_comesWith_28 0 rfl ?_
  exact r_iret (pc := 30) X Z dX3_comesWith_30 rfl

set_option maxRecDepth 100000 in
theorem s_X3_bestBag_j98 {y : LY} {l : Launch} {E : ET} (X : CX y l E cX3_bestBag 9 RX3 (rmd 8)) (Z : ZX E (some .int)) (hy : y.1 ≤ (eS E).heap.size)   {K59 : Int32 → Int32 → Int32 → Int32 → Int32 → Int32 → ST → Option (Int32 × ST)} (hK59 : ∀ (v1 : Int32) (v2 : Int32) (v3 : Int32) (v5 : Int32) (v6 : Int32) (v7 : Int32) (σ : ST), WW y l E 9 (fun a => QM y E (xI a)) 59 [(0, .ref (ad y 13)), (1, .int v1), (2, .int v2), (3, .int v3), (5, .int v5), (6, .int v6), (7, .int v7)] [] σ (K59 v1 v2 v3 v5 v6 v7 σ)) (v1 : Int32) (v2 : Int32) (v3 : Int32) (v7 : Int32) (v8 : Int32) (σ : ST) : WW y l E 9 (fun a => QM y E (xI a)) 98 [(0, .ref (ad y 13)), (1, .int v1), (2, .int v2), (3, .int v3), (7, .int v7), (8, .int v8)] [] σ (T_X3_bestBag_j98 K59  v1 v2 v3 v7 v8 σ) := by
  unfold T_X3_bestBag_j98
  refine r_iload (pc := 98) X dX3_bestBag_98 4 rfl ?_
  refine r_istore (pc := 100) (lv' := [(5, .int _), (0, .ref _), (1, .int _), (2, .int _), (3, .int _), (7, .int _), (8, .int _)]) X dX3_bestBag_100 (by decide) rfl ?_
  refine r_iload (pc := 102) X dX3_bestBag_102 6 rfl ?_
  refine r_istore (pc := 104) (lv' := [(6, .int _), (5, .int _), (0, .ref _), (1, .int _), (2, .int _), (3, .int _), (7, .int _), (8, .int _)]) X dX3_bestBag_104 (by decide) rfl ?_
  refine r_iinc (pc := 106) (lv' := [(6, .int _), (5, .int _), (0, .ref _), (1, .int _), (2, .int _), (3, .int _), (8, .int _)]) X dX3_bestBag_106 6 rfl (congrArg (fun z => v7 + z) kc_1) (by decide) rfl (fun x1 => ?_)
  refine r_goto (pc := 109) (tgt := 59) X dX3_bestBag_109 (by decide) ?_
  refine r_sub [3, 4, 5, 6, 2, 1, 0] rfl ?_
  exact hK59 v1 v2 v3 v7 v8 x1 σ

set_option maxRecDepth 100000 in
theorem s_X3_bestBag_L59 {y : LY} {l : Launch} {E : ET} (X : CX y l E cX3_bestBag 9 RX3 (rmd 8)) (Z : ZX E (some .int)) (hy : y.1 ≤ (eS E).heap.size)     (n : Nat) : ∀ (v1 : Int32) (v2 : Int32) (v3 : Int32) (v5 : Int32) (v6 : Int32) (v7 : Int32) (σ : ST), WW y l E 9 (fun a => QM y E (xI a)) 59 [(0, .ref (ad y 13)), (1, .int v1), (2, .int v2), (3, .int v3), (5, .int v5), (6, .int v6), (7, .int v7)] [] σ (T_X3_bestBag_L59  n v1 v2 v3 v5 v6 v7 σ) := by
  induction n with
  | zero => intros; exact r_none rfl
  | succ n ih =>
    intro v1 v2 v3 v5 v6 v7 σ
    unfold T_X3_bestBag_L59
    refine r_iload (pc := 59) X dX3_bestBag_59 6 rfl ?_
    refine r_aload_n (pc := 61) X dX3_bestBag_61 0 rfl rfl ?_
    refine r_geti (pc := 62) X dX3_bestBag_62 fl_X3_83 oc_13 rfl (fun x1 => ?_)
    refine r_icmp_ge (pc := 65) (tgt := 112) X dX3_bestBag_65 (by decide) ?_ ?_
    · refine r_iload_n (pc := 112) X dX3_bestBag_112 3 rfl rfl ?_
      refine r_if_ne (pc := 113) (tgt := 121) X dX3_bestBag_113 (by decide) ?_ ?_
      · refine r_iload (pc := 121) X dX3_bestBag_121 5 rfl ?_
        exact r_iret (pc := 123) X Z dX3_bestBag_123 rfl
      · refine r_iload (pc := 116) X dX3_bestBag_116 4 rfl ?_
        refine r_goto (pc := 118) (tgt := 123) X dX3_bestBag_118 (by decide) ?_
        exact r_iret (pc := 123) X Z dX3_bestBag_123 rfl
    · refine r_aload_n (pc := 68) X dX3_bestBag_68 0 rfl rfl ?_
      refine r_iload_n (pc := 69) X dX3_bestBag_69 1 rfl rfl ?_
      refine r_iload (pc := 70) X dX3_bestBag_70 6 rfl ?_
      refine r_iload_n (pc := 72) X dX3_bestBag_72 2 rfl rfl ?_
      refine r_callvI (pc := 73) X dX3_bestBag_73 cf_X3_comesWith ml_X3_268 (rf rfl rfl) hy oc_13.1 hc_3 (fun b hb => m_X3_comesWith hb) rfl rfl (Nat.le_of_ble_eq_true rfl) (fun x2 σ3 => ?_)
      refine r_istore (pc := 76) (lv' := [(8, .int _), (0, .ref _), (1, .int _), (2, .int _), (3, .int _), (5, .int _), (6, .int _), (7, .int _)]) X dX3_bestBag_76 (by decide) rfl ?_
      refine r_iload (pc := 78) X dX3_bestBag_78 0 rfl ?_
      refine r_if_lt (pc := 80) (tgt := 106) X dX3_bestBag_80 (by decide) ?_ ?_
      · refine r_iinc (pc := 106) (lv' := [(8, .int _), (0, .ref _), (1, .int _), (2, .int _), (3, .int _), (5, .int _), (6, .int _)]) X dX3_bestBag_106 7 rfl (congrArg (fun z => v7 + z) kc_1) (by decide) rfl (fun x4 => ?_)
        refine r_goto (pc := 109) (tgt := 59) X dX3_bestBag_109 (by decide) ?_
        refine r_sub [2, 3, 4, 5, 6, 7, 0] rfl ?_
        exact ih v1 v2 v3 v5 v6 x4 σ3
      · refine r_iload (pc := 83) X dX3_bestBag_83 5 rfl ?_
        refine r_if_lt (pc := 85) (tgt := 98) X dX3_bestBag_85 (by decide) ?_ ?_
        · refine r_sub [1, 2, 3, 4, 7, 0] rfl ?_
          exact s_X3_bestBag_j98 X Z hy (fun v1 v2 v3 v5 v6 v7 s => ih v1 v2 v3 v5 v6 v7 s) v1 v2 v3 v7 x2 σ3
        · refine r_iload (pc := 88) X dX3_bestBag_88 0 rfl ?_
          refine r_iload (pc := 90) X dX3_bestBag_90 6 rfl ?_
          refine r_icmp_lt (pc := 92) (tgt := 98) X dX3_bestBag_92 (by decide) ?_ ?_
          · refine r_sub [1, 2, 3, 4, 7, 0] rfl ?_
            exact s_X3_bestBag_j98 X Z hy (fun v1 v2 v3 v5 v6 v7 s => ih v1 v2 v3 v5 v6 v7 s) v1 v2 v3 v7 x2 σ3
          · refine r_goto (pc := 95) (tgt := 106) X dX3_bestBag_95 (by decide) ?_
            refine r_iinc (pc := 106) (lv' := [(8, .int _), (0, .ref _), (1, .int _), (2, .int _), (3, .int _), (5, .int _), (6, .int _)]) X dX3_bestBag_106 7 rfl (congrArg (fun z => v7 + z) kc_1) (by decide) rfl (fun x5 => ?_)
            refine r_goto (pc := 109) (tgt := 59) X dX3_bestBag_109 (by decide) ?_
            refine r_sub [2, 3, 4, 5, 6, 7, 0] rfl ?_
            exact ih v1 v2 v3 v5 v6 x5 σ3

set_option maxRecDepth 100000 in
theorem s_X3_bestBag_j34 {y : LY} {l : Launch} {E : ET} (X : CX y l E cX3_bestBag 9 RX3 (rmd 8)) (Z : ZX E (some .int)) (hy : y.1 ≤ (eS E).heap.size)     (v1 : Int32) (v2 : Int32) (v3 : Int32) (s0 : Int32) (σ : ST) : WW y l E 9 (fun a => QM y E (xI a)) 34 [(0, .ref (ad y 13)), (1, .int v1), (2, .int v2), (3, .int v3)] [.int s0] σ (T_X3_bestBag_j34   v1 v2 v3 s0 σ) := by
  unfold T_X3_bestBag_j34
  refine r_istore (pc := 34) (lv' := [(4, .int _), (0, .ref _), (1, .int _), (2, .int _), (3, .int _)]) X dX3_bestBag_34 (by decide) rfl ?_
  refine r_iload (pc := 36) X dX3_bestBag_36 0 rfl ?_
  refine r_if_eq (pc := 38) (tgt := 48) X dX3_bestBag_38 (by decide) ?_ ?_
  · refine r_bipush (pc := 48) X dX3_bestBag_48 kb_m9 ?_
    refine r_istore (pc := 50) (lv' := [(5, .int _), (4, .int _), (0, .ref _), (1, .int _), (2, .int _), (3, .int _)]) X dX3_bestBag_50 (by decide) rfl ?_
    refine r_bipush (pc := 52) X dX3_bestBag_52 kb_m9 ?_
    refine r_istore (pc := 54) (lv' := [(6, .int _), (5, .int _), (4, .int _), (0, .ref _), (1, .int _), (2, .int _), (3, .int _)]) X dX3_bestBag_54 (by decide) rfl ?_
    refine r_iconst (pc := 56) X dX3_bestBag_56 kc_0 ?_
    refine r_istore (pc := 57) (lv' := [(7, .int _), (6, .int _), (5, .int _), (4, .int _), (0, .ref _), (1, .int _), (2, .int _), (3, .int _)]) X dX3_bestBag_57 (by decide) rfl ?_
    refine r_sub [4, 5, 6, 7, 2, 1, 0] rfl ?_
    exact s_X3_bestBag_L59 X Z hy FU v1 v2 v3 ((-9)) ((-9)) 0 σ
  · refine r_aload_n (pc := 41) X dX3_bestBag_41 1 rfl rfl ?_
    refine r_iload (pc := 42) X dX3_bestBag_42 0 rfl ?_
    refine r_callvI (pc := 44) X dX3_bestBag_44 cf_X3_no ml_X3_102 (rf rfl rfl) hy oc_13.1 hc_3 (fun b hb => m_X3_no hb) rfl rfl (Nat.le_of_ble_eq_true rfl) (fun x1 σ2 => ?_)
    exact r_iret (pc := 47) X Z dX3_bestBag_47 rfl

set_option maxRecDepth 100000 in
theorem s_X3_bestBag_j15 {y : LY} {l : Launch} {E : ET} (X : CX y l E cX3_bestBag 9 RX3 (rmd 8)) (Z : ZX E (some .int)) (hy : y.1 ≤ (eS E).heap.size)     (v1 : Int32) (v2 : Int32) (v3 : Int32) (σ : ST) : WW y l E 9 (fun a => QM y E (xI a)) 15 [(0, .ref (ad y 13)), (1, .int v1), (2, .int v2), (3, .int v3)] [] σ (T_X3_bestBag_j15   v1 v2 v3 σ) := by
  unfold T_X3_bestBag_j15
  refine r_iconst (pc := 15) X dX3_bestBag_15 kc_m1 ?_
  refine r_goto (pc := 16) (tgt := 34) X dX3_bestBag_16 (by decide) ?_
  exact s_X3_bestBag_j34 X Z hy v1 v2 v3 ((-1)) σ

set_option maxRecDepth 100000 in
theorem m_X3_bestBag {y : LY} {l : Launch}  {a0 : Int32} {a1 : Int32} {a2 : Int32} {σ : ST} {a : (Int32 × ST)} (h : T_X3_bestBag a0 a1 a2 σ = some a) : MU y l yX3_bestBag cX3_bestBag 9 (some .int) (rmd 8) [.ref (ad y 13), .int a0, .int a1, .int a2] σ (xI a) := by
  refine MU.of (φ := xI) h (by decide +kernel) rfl (fun E X Z hy => ?_)
  have X : CX y l E cX3_bestBag 9 RX3 (rmd 8) := X
  show WW y l E 9 _ 0 [(0, .ref (ad y 13)), (1, .int a0), (2, .int a1), (3, .int a2)] [] σ (T_X3_bestBag a0 a1 a2 σ)
  unfold T_X3_bestBag
  refine r_aload_n (pc := 0) X dX3_bestBag_0 0 rfl rfl ?_
  refine r_iload_n (pc := 1) X dX3_bestBag_1 1 rfl rfl ?_
  refine r_callvp (pc := 2) X dX3_bestBag_2 cf_X3_isBearer ml_X3_91 (rf rfl rfl) hy oc_13.1 hc_3 (fun b hb => m_X3_isBearer hb) rfl rfl (Nat.le_of_ble_eq_true rfl) (fun x1 => ?_)
  refine r_if_eq (pc := 5) (tgt := 15) X dX3_bestBag_5 (by decide) ?_ ?_
  · exact s_X3_bestBag_j15 X Z hy a0 a1 a2 σ
  · refine r_iload_n (pc := 8) X dX3_bestBag_8 2 rfl rfl ?_
    refine r_callsp (pc := 9) X dX3_bestBag_9 cf_X3_isPlace ml_X3_226 (rf rfl rfl) hy (fun b hb => m_X3_isPlace hb) rfl rfl (Nat.le_of_ble_eq_true rfl) (fun x3 => ?_)
    refine r_if_ne (pc := 12) (tgt := 19) X dX3_bestBag_12 (by decide) ?_ ?_
    · refine r_iload_n (pc := 19) X dX3_bestBag_19 3 rfl rfl ?_
      refine r_iconst (pc := 20) X dX3_bestBag_20 kc_0 ?_
      refine r_iconst (pc := 21) X dX3_bestBag_21 kc_1 ?_
      refine r_callsp (pc := 22) X dX3_bestBag_22 cf_X3_isIn ml_X3_113 (rf rfl rfl) hy (fun b hb => m_X3_isIn hb) rfl rfl (Nat.le_of_ble_eq_true rfl) (fun x5 => ?_)
      refine r_if_ne (pc := 25) (tgt := 33) X dX3_bestBag_25 (by decide) ?_ ?_
      · refine r_iconst (pc := 33) X dX3_bestBag_33 kc_0 ?_
        exact s_X3_bestBag_j34 X Z hy a0 a1 a2 0 σ
      · refine r_bipush (pc := 28) X dX3_bestBag_28 kb_m2 ?_
        refine r_goto (pc := 30) (tgt := 34) X dX3_bestBag_30 (by decide) ?_
        exact s_X3_bestBag_j34 X Z hy a0 a1 a2 ((-2)) σ
    · exact s_X3_bestBag_j15 X Z hy a0 a1 a2 σ

set_option maxRecDepth 100000 in
theorem s_X3_hers_j47 {y : LY} {l : Launch} {E : ET} (X : CX y l E cX3_hers 4 RX3 (rmd 6)) (Z : ZX E (some .int)) (hy : y.1 ≤ (eS E).heap.size)   {K23 : Int32 → Int32 → Int32 → ST → Option (Int32 × ST)} (hK23 : ∀ (v1 : Int32) (v2 : Int32) (v3 : Int32) (σ : ST), WW y l E 4 (fun a => QM y E (xI a)) 23 [(0, .ref (ad y 13)), (1, .int v1), (2, .int v2), (3, .int v3)] [] σ (K23 v1 v2 v3 σ)) (v1 : Int32) (v3 : Int32) (s0 : Int32) (σ : ST) : WW y l E 4 (fun a => QM y E (xI a)) 47 [(0, .ref (ad y 13)), (1, .int v1), (3, .int v3)] [.int s0] σ (T_X3_hers_j47 K23  v1 v3 s0 σ) := by
  unfold T_X3_hers_j47
  refine r_istore_n (pc := 47) (lv' := [(2, .int _), (0, .ref _), (1, .int _), (3, .int _)]) X dX3_hers_47 rfl (by decide) rfl ?_
  refine r_aload_n (pc := 48) X dX3_hers_48 1 rfl rfl ?_
  refine r_iconst (pc := 49) X dX3_hers_49 kc_0 ?_
  refine r_callvV (pc := 50) X dX3_hers_50 cf_X3_goesHour ml_X3_130 (rf rfl rfl) hy oc_13.1 hc_3 (fun b hb => m_X3_goesHour hb) rfl rfl (Nat.le_of_ble_eq_true rfl) (fun σ2 => ?_)
  refine r_iinc (pc := 53) (lv' := [(2, .int _), (0, .ref _), (1, .int _)]) X dX3_hers_53 3 rfl (congrArg (fun z => v3 + z) kc_1) (by decide) rfl (fun x3 => ?_)
  refine r_goto (pc := 56) (tgt := 23) X dX3_hers_56 (by decide) ?_
  refine r_sub [2, 3, 1, 0] rfl ?_
  exact hK23 v1 s0 x3 σ2

set_option maxRecDepth 100000 in
theorem s_X3_hers_j59 {y : LY} {l : Launch} {E : ET} (X : CX y l E cX3_hers 4 RX3 (rmd 6)) (Z : ZX E (some .int)) (hy : y.1 ≤ (eS E).heap.size)     (v2 : Int32) (σ : ST) : WW y l E 4 (fun a => QM y E (xI a)) 59 [(0, .ref (ad y 13)), (2, .int v2)] [] σ (T_X3_hers_j59   v2 σ) := by
  unfold T_X3_hers_j59
  refine r_aload_n (pc := 59) X dX3_hers_59 0 rfl rfl ?_
  refine r_callvV (pc := 60) X dX3_hers_60 cf_X3_forgets ml_X3_241 (rf rfl rfl) hy oc_13.1 hc_3 (fun b hb => m_X3_forgets hb) rfl rfl (Nat.le_of_ble_eq_true rfl) (fun σ2 => ?_)
  refine r_iload_n (pc := 63) X dX3_hers_63 1 rfl rfl ?_
  exact r_iret (pc := 64) X Z dX3_hers_64 rfl

set_option maxRecDepth 100000 in
theorem s_X3_hers_L23 {y : LY} {l : Launch} {E : ET} (X : CX y l E cX3_hers 4 RX3 (rmd 6)) (Z : ZX E (some .int)) (hy : y.1 ≤ (eS E).heap.size)     (n : Nat) : ∀ (v1 : Int32) (v2 : Int32) (v3 : Int32) (σ : ST), WW y l E 4 (fun a => QM y E (xI a)) 23 [(0, .ref (ad y 13)), (1, .int v1), (2, .int v2), (3, .int v3)] [] σ (T_X3_hers_L23  n v1 v2 v3 σ) := by
  induction n with
  | zero => intros; exact r_none rfl
  | succ n ih =>
    intro v1 v2 v3 σ
    unfold T_X3_hers_L23
    refine r_iload_n (pc := 23) X dX3_hers_23 3 rfl rfl ?_
    refine r_bipush (pc := 24) X dX3_hers_24 kb_60 ?_
    refine r_icmp_gt (pc := 26) (tgt := 59) X dX3_hers_26 (by decide) ?_ ?_
    · refine r_sub [0, 2] rfl ?_
      exact s_X3_hers_j59 X Z hy v2 σ
    · refine r_iload_n (pc := 29) X dX3_hers_29 2 rfl rfl ?_
      refine r_if_ge (pc := 30) (tgt := 59) X dX3_hers_30 (by decide) ?_ ?_
      · refine r_sub [0, 2] rfl ?_
        exact s_X3_hers_j59 X Z hy v2 σ
      · refine r_aload_n (pc := 33) X dX3_hers_33 0 rfl rfl ?_
        refine r_iload_n (pc := 34) X dX3_hers_34 1 rfl rfl ?_
        refine r_callvp (pc := 35) X dX3_hers_35 cf_X3_isLed ml_X3_208 (rf rfl rfl) hy oc_13.1 hc_3 (fun b hb => m_X3_isLed hb) rfl rfl (Nat.le_of_ble_eq_true rfl) (fun x1 => ?_)
        refine r_if_eq (pc := 38) (tgt := 45) X dX3_hers_38 (by decide) ?_ ?_
        · refine r_bipush (pc := 45) X dX3_hers_45 kb_m9 ?_
          refine r_sub [0, 1, 3] rfl ?_
          exact s_X3_hers_j47 X Z hy (fun v1 v2 v3 s => ih v1 v2 v3 s) v1 v3 ((-9)) σ
        · refine r_iload_n (pc := 41) X dX3_hers_41 3 rfl rfl ?_
          refine r_goto (pc := 42) (tgt := 47) X dX3_hers_42 (by decide) ?_
          refine r_sub [0, 1, 3] rfl ?_
          exact s_X3_hers_j47 X Z hy (fun v1 v2 v3 s => ih v1 v2 v3 s) v1 v3 v3 σ

set_option maxRecDepth 100000 in
theorem m_X3_hers {y : LY} {l : Launch}  {a0 : Int32} {σ : ST} {a : (Int32 × ST)} (h : T_X3_hers a0 σ = some a) : MU y l yX3_hers cX3_hers 4 (some .int) (rmd 6) [.ref (ad y 13), .int a0] σ (xI a) := by
  refine MU.of (φ := xI) h (by decide +kernel) rfl (fun E X Z hy => ?_)
  have X : CX y l E cX3_hers 4 RX3 (rmd 6) := X
  show WW y l E 4 _ 0 [(0, .ref (ad y 13)), (1, .int a0)] [] σ (T_X3_hers a0 σ)
  unfold T_X3_hers
  refine r_aload_n (pc := 0) X dX3_hers_0 0 rfl rfl ?_
  refine r_iload_n (pc := 1) X dX3_hers_1 1 rfl rfl ?_
  refine r_callvp (pc := 2) X dX3_hers_2 cf_X3_isBearer ml_X3_91 (rf rfl rfl) hy oc_13.1 hc_3 (fun b hb => m_X3_isBearer hb) rfl rfl (Nat.le_of_ble_eq_true rfl) (fun x1 => ?_)
  refine r_if_ne (pc := 5) (tgt := 14) X dX3_hers_5 (by decide) ?_ ?_
  · refine r_aload_n (pc := 14) X dX3_hers_14 0 rfl rfl ?_
    refine r_callvV (pc := 15) X dX3_hers_15 cf_X3_thinks ml_X3_238 (rf rfl rfl) hy oc_13.1 hc_3 (fun b hb => m_X3_thinks hb) rfl rfl (Nat.le_of_ble_eq_true rfl) (fun σ4 => ?_)
    refine r_bipush (pc := 18) X dX3_hers_18 kb_m9 ?_
    refine r_istore_n (pc := 20) (lv' := [(2, .int _), (0, .ref _), (1, .int _)]) X dX3_hers_20 rfl (by decide) rfl ?_
    refine r_iconst (pc := 21) X dX3_hers_21 kc_0 ?_
    refine r_istore_n (pc := 22) (lv' := [(3, .int _), (2, .int _), (0, .ref _), (1, .int _)]) X dX3_hers_22 rfl (by decide) rfl ?_
    refine r_sub [2, 3, 1, 0] rfl ?_
    exact s_X3_hers_L23 X Z hy FU a0 ((-9)) 0 σ4
  · refine r_aload_n (pc := 8) X dX3_hers_8 0 rfl rfl ?_
    refine r_iconst (pc := 9) X dX3_hers_9 kc_m1 ?_
    refine r_callvI (pc := 10) X dX3_hers_10 cf_X3_no ml_X3_102 (rf rfl rfl) hy oc_13.1 hc_3 (fun b hb => m_X3_no hb) rfl rfl (Nat.le_of_ble_eq_true rfl) (fun x5 σ6 => ?_)
    exact r_iret (pc := 13) X Z dX3_hers_13 rfl

set_option maxRecDepth 100000 in
theorem m_X3_errandBy {y : LY} {l : Launch}  {a0 : Int32} {a1 : Int32} {a2 : Int32} {a3 : Int32} {σ : ST} {a : (Int32 × ST)} (h : T_X3_errandBy a0 a1 a2 a3 σ = some a) : MU y l yX3_errandBy cX3_errandBy 8 (some .int) (rmd 7) [.ref (ad y 13), .int a0, .int a1, .int a2, .int a3] σ (xI a) := by
  refine MU.of (φ := xI) h (by decide +kernel) rfl (fun E X Z hy => ?_)
  have X : CX y l E cX3_errandBy 8 RX3 (rmd 7) := X
  show WW y l E 8 _ 0 [(0, .ref (ad y 13)), (1, .int a0), (2, .int a1), (3, .int a2), (4, .int a3)] [] σ (T_X3_errandBy a0 a1 a2 a3 σ)
  unfold T_X3_errandBy
  refine r_aload_n (pc := 0) X dX3_errandBy_0 0 rfl rfl ?_
  refine r_geta (pc := 1) X dX3_errandBy_1 fl_X3_31 oc_13 (by decide) ?_
  refine r_iload_n (pc := 4) X dX3_errandBy_4 1 rfl rfl ?_
  refine r_iald (pc := 5) X dX3_errandBy_5 ar_13_7 (fun x1 => ?_)
  refine r_istore (pc := 6) (lv' := [(5, .int _), (0, .ref _), (1, .int _), (2, .int _), (3, .int _), (4, .int _)]) X dX3_errandBy_6 (by decide) rfl ?_
  refine r_aload_n (pc := 8) X dX3_errandBy_8 1 rfl rfl ?_
  refine r_geta (pc := 9) X dX3_errandBy_9 fl_X3_28 oc_13 (by decide) ?_
  refine r_iload_n (pc := 12) X dX3_errandBy_12 2 rfl rfl ?_
  refine r_iald (pc := 13) X dX3_errandBy_13 ar_13_6 (fun x2 => ?_)
  refine r_istore (pc := 14) (lv' := [(6, .int _), (5, .int _), (0, .ref _), (1, .int _), (2, .int _), (3, .int _), (4, .int _)]) X dX3_errandBy_14 (by decide) rfl ?_
  refine r_aload_n (pc := 16) X dX3_errandBy_16 2 rfl rfl ?_
  refine r_geta (pc := 17) X dX3_errandBy_17 fl_X3_31 oc_13 (by decide) ?_
  refine r_iload_n (pc := 20) X dX3_errandBy_20 3 rfl rfl ?_
  refine r_iload_n (pc := 21) X dX3_errandBy_21 4 rfl rfl ?_
  refine r_iast (pc := 22) X dX3_errandBy_22 ar_13_7 (fun σ3 => ?_)
  refine r_aload_n (pc := 23) X dX3_errandBy_23 2 rfl rfl ?_
  refine r_geta (pc := 24) X dX3_errandBy_24 fl_X3_28 oc_13 (by decide) ?_
  refine r_iload_n (pc := 27) X dX3_errandBy_27 3 rfl rfl ?_
  refine r_iload_n (pc := 28) X dX3_errandBy_28 5 rfl rfl ?_
  refine r_iast (pc := 29) X dX3_errandBy_29 ar_13_6 (fun σ4 => ?_)
  refine r_aload_n (pc := 30) X dX3_errandBy_30 2 rfl rfl ?_
  refine r_iload_n (pc := 31) X dX3_errandBy_31 3 rfl rfl ?_
  refine r_iload_n (pc := 32) X dX3_errandBy_32 4 rfl rfl ?_
  refine r_iload (pc := 33) X dX3_errandBy_33 6 rfl ?_
  refine r_callvI (pc := 35) X dX3_errandBy_35 cf_X3_comesTo ml_X3_265 (rf rfl rfl) hy oc_13.1 hc_3 (fun b hb => m_X3_comesTo hb) rfl rfl (Nat.le_of_ble_eq_true rfl) (fun x5 σ6 => ?_)
  refine r_istore (pc := 38) (lv' := [(7, .int _), (6, .int _), (5, .int _), (0, .ref _), (1, .int _), (2, .int _), (3, .int _), (4, .int _)]) X dX3_errandBy_38 (by decide) rfl ?_
  refine r_aload_n (pc := 40) X dX3_errandBy_40 3 rfl rfl ?_
  refine r_geta (pc := 41) X dX3_errandBy_41 fl_X3_31 oc_13 (by decide) ?_
  refine r_iload_n (pc := 44) X dX3_errandBy_44 4 rfl rfl ?_
  refine r_iload (pc := 45) X dX3_errandBy_45 2 rfl ?_
  refine r_iast (pc := 47) X dX3_errandBy_47 ar_13_7 (fun σ7 => ?_)
  refine r_aload_n (pc := 48) X dX3_errandBy_48 3 rfl rfl ?_
  refine r_geta (pc := 49) X dX3_errandBy_49 fl_X3_28 oc_13 (by decide) ?_
  refine r_iload_n (pc := 52) X dX3_errandBy_52 4 rfl rfl ?_
  refine r_iload (pc := 53) X dX3_errandBy_53 1 rfl ?_
  refine r_iast (pc := 55) X dX3_errandBy_55 ar_13_6 (fun σ8 => ?_)
  refine r_iload (pc := 56) X dX3_errandBy_56 0 rfl ?_
  exact r_iret (pc := 58) X Z dX3_errandBy_58 rfl

set_option maxRecDepth 100000 in
theorem s_X3_errand_j32 {y : LY} {l : Launch} {E : ET} (X : CX y l E cX3_errand 3 RX3 (rmd 8)) (Z : ZX E (some .int)) (hy : y.1 ≤ (eS E).heap.size)     (σ : ST) : WW y l E 3 (fun a => QM y E (xI a)) 32 [(0, .ref (ad y 13))] [] σ (T_X3_errand_j32   σ) := by
  unfold T_X3_errand_j32
  refine r_aload_n (pc := 32) X dX3_errand_32 0 rfl rfl ?_
  refine r_iconst (pc := 33) X dX3_errand_33 kc_m1 ?_
  refine r_callvI (pc := 34) X dX3_errand_34 cf_X3_no ml_X3_102 (rf rfl rfl) hy oc_13.1 hc_3 (fun b hb => m_X3_no hb) rfl rfl (Nat.le_of_ble_eq_true rfl) (fun x1 σ2 => ?_)
  exact r_iret (pc := 37) X Z dX3_errand_37 rfl

set_option maxRecDepth 100000 in
theorem m_X3_errand {y : LY} {l : Launch}  {a0 : Int32} {a1 : Int32} {σ : ST} {a : (Int32 × ST)} (h : T_X3_errand a0 a1 σ = some a) : MU y l yX3_errand cX3_errand 3 (some .int) (rmd 8) [.ref (ad y 13), .int a0, .int a1] σ (xI a) := by
  refine MU.of (φ := xI) h (by decide +kernel) rfl (fun E X Z hy => ?_)
  have X : CX y l E cX3_errand 3 RX3 (rmd 8) := X
  show WW y l E 3 _ 0 [(0, .ref (ad y 13)), (1, .int a0), (2, .int a1)] [] σ (T_X3_errand a0 a1 σ)
  unfold T_X3_errand
  refine r_aload_n (pc := 0) X dX3_errand_0 0 rfl rfl ?_
  refine r_iload_n (pc := 1) X dX3_errand_1 1 rfl rfl ?_
  refine r_callvp (pc := 2) X dX3_errand_2 cf_X3_isBearer ml_X3_91 (rf rfl rfl) hy oc_13.1 hc_3 (fun b hb => m_X3_isBearer hb) rfl rfl (Nat.le_of_ble_eq_true rfl) (fun x1 => ?_)
  refine r_if_eq (pc := 5) (tgt := 32) X dX3_errand_5 (by decide) ?_ ?_
  · refine r_sub [0] rfl ?_
    exact s_X3_errand_j32 X Z hy σ
  · refine r_iload_n (pc := 8) X dX3_errand_8 2 rfl rfl ?_
    refine r_callsp (pc := 9) X dX3_errand_9 cf_X3_isPlace ml_X3_226 (rf rfl rfl) hy (fun b hb => m_X3_isPlace hb) rfl rfl (Nat.le_of_ble_eq_true rfl) (fun x3 => ?_)
    refine r_if_eq (pc := 12) (tgt := 32) X dX3_errand_12 (by decide) ?_ ?_
    · refine r_sub [0] rfl ?_
      exact s_X3_errand_j32 X Z hy σ
    · refine r_aload_n (pc := 15) X dX3_errand_15 0 rfl rfl ?_
      refine r_iload_n (pc := 16) X dX3_errand_16 1 rfl rfl ?_
      refine r_iload_n (pc := 17) X dX3_errand_17 2 rfl rfl ?_
      refine r_aload_n (pc := 18) X dX3_errand_18 0 rfl rfl ?_
      refine r_geta (pc := 19) X dX3_errand_19 fl_X3_28 oc_13 (by decide) ?_
      refine r_iload_n (pc := 22) X dX3_errand_22 1 rfl rfl ?_
      refine r_iald (pc := 23) X dX3_errand_23 ar_13_6 (fun x5 => ?_)
      refine r_bipush (pc := 24) X dX3_errand_24 kb_60 ?_
      refine r_callvI (pc := 26) X dX3_errand_26 cf_X3_errandBy ml_X3_271 (rf rfl rfl) hy oc_13.1 hc_3 (fun b hb => m_X3_errandBy hb) rfl rfl (Nat.le_of_ble_eq_true rfl) (fun x6 σ7 => ?_)
      refine r_goto (pc := 29) (tgt := 37) X dX3_errand_29 (by decide) ?_
      exact r_iret (pc := 37) X Z dX3_errand_37 rfl

set_option maxRecDepth 100000 in
theorem s_X3_defy_L40 {y : LY} {l : Launch} {E : ET} (X : CX y l E cX3_defy 6 RX3 (rmd 8)) (Z : ZX E (some .int)) (hy : y.1 ≤ (eS E).heap.size)     (n : Nat) : ∀ (v1 : Int32) (v2 : Int32) (v3 : Int32) (v5 : Int32) (σ : ST), WW y l E 6 (fun a => QM y E (xI a)) 40 [(0, .ref (ad y 13)), (1, .int v1), (2, .int v2), (3, .int v3), (5, .int v5)] [] σ (T_X3_defy_L40  n v1 v2 v3 v5 σ) := by
  induction n with
  | zero => intros; exact r_none rfl
  | succ n ih =>
    intro v1 v2 v3 v5 σ
    unfold T_X3_defy_L40
    refine r_iload (pc := 40) X dX3_defy_40 4 rfl ?_
    refine r_bipush (pc := 42) X dX3_defy_42 kb_10 ?_
    refine r_icmp_ge (pc := 44) (tgt := 68) X dX3_defy_44 (by decide) ?_ ?_
    · refine r_bipush (pc := 68) X dX3_defy_68 kb_m9 ?_
      exact r_iret (pc := 70) X Z dX3_defy_70 rfl
    · refine r_aload_n (pc := 47) X dX3_defy_47 0 rfl rfl ?_
      refine r_iload_n (pc := 48) X dX3_defy_48 1 rfl rfl ?_
      refine r_iload_n (pc := 49) X dX3_defy_49 2 rfl rfl ?_
      refine r_iload (pc := 50) X dX3_defy_50 4 rfl ?_
      refine r_iload_n (pc := 52) X dX3_defy_52 3 rfl rfl ?_
      refine r_callvI (pc := 53) X dX3_defy_53 cf_X3_errandBy ml_X3_271 (rf rfl rfl) hy oc_13.1 hc_3 (fun b hb => m_X3_errandBy hb) rfl rfl (Nat.le_of_ble_eq_true rfl) (fun x1 σ2 => ?_)
      refine r_if_lt (pc := 56) (tgt := 62) X dX3_defy_56 (by decide) ?_ ?_
      · refine r_iinc (pc := 62) (lv' := [(0, .ref _), (1, .int _), (2, .int _), (3, .int _)]) X dX3_defy_62 4 rfl (congrArg (fun z => v5 + z) kc_1) (by decide) rfl (fun x3 => ?_)
        refine r_goto (pc := 65) (tgt := 40) X dX3_defy_65 (by decide) ?_
        refine r_sub [1, 2, 3, 4, 0] rfl ?_
        exact ih v1 v2 v3 x3 σ2
      · refine r_iload (pc := 59) X dX3_defy_59 4 rfl ?_
        exact r_iret (pc := 61) X Z dX3_defy_61 rfl

set_option maxRecDepth 100000 in
theorem s_X3_defy_j23 {y : LY} {l : Launch} {E : ET} (X : CX y l E cX3_defy 6 RX3 (rmd 8)) (Z : ZX E (some .int)) (hy : y.1 ≤ (eS E).heap.size)     (v1 : Int32) (v2 : Int32) (v3 : Int32) (s0 : Int32) (σ : ST) : WW y l E 6 (fun a => QM y E (xI a)) 23 [(0, .ref (ad y 13)), (1, .int v1), (2, .int v2), (3, .int v3)] [.int s0] σ (T_X3_defy_j23   v1 v2 v3 s0 σ) := by
  unfold T_X3_defy_j23
  refine r_istore (pc := 23) (lv' := [(4, .int _), (0, .ref _), (1, .int _), (2, .int _), (3, .int _)]) X dX3_defy_23 (by decide) rfl ?_
  refine r_iload (pc := 25) X dX3_defy_25 0 rfl ?_
  refine r_if_eq (pc := 27) (tgt := 37) X dX3_defy_27 (by decide) ?_ ?_
  · refine r_iconst (pc := 37) X dX3_defy_37 kc_0 ?_
    refine r_istore (pc := 38) (lv' := [(5, .int _), (4, .int _), (0, .ref _), (1, .int _), (2, .int _), (3, .int _)]) X dX3_defy_38 (by decide) rfl ?_
    refine r_sub [2, 3, 4, 5, 0] rfl ?_
    exact s_X3_defy_L40 X Z hy FU v1 v2 v3 0 σ
  · refine r_aload_n (pc := 30) X dX3_defy_30 1 rfl rfl ?_
    refine r_iload (pc := 31) X dX3_defy_31 0 rfl ?_
    refine r_callvI (pc := 33) X dX3_defy_33 cf_X3_no ml_X3_102 (rf rfl rfl) hy oc_13.1 hc_3 (fun b hb => m_X3_no hb) rfl rfl (Nat.le_of_ble_eq_true rfl) (fun x1 σ2 => ?_)
    exact r_iret (pc := 36) X Z dX3_defy_36 rfl

set_option maxRecDepth 100000 in
theorem s_X3_defy_j15 {y : LY} {l : Launch} {E : ET} (X : CX y l E cX3_defy 6 RX3 (rmd 8)) (Z : ZX E (some .int)) (hy : y.1 ≤ (eS E).heap.size)     (v1 : Int32) (v2 : Int32) (v3 : Int32) (σ : ST) : WW y l E 6 (fun a => QM y E (xI a)) 15 [(0, .ref (ad y 13)), (1, .int v1), (2, .int v2), (3, .int v3)] [] σ (T_X3_defy_j15   v1 v2 v3 σ) := by
  unfold T_X3_defy_j15
  refine r_iconst (pc := 15) X dX3_defy_15 kc_m1 ?_
  refine r_goto (pc := 16) (tgt := 23) X dX3_defy_16 (by decide) ?_
  exact s_X3_defy_j23 X Z hy v1 v2 v3 ((-1)) σ

set_option maxRecDepth 100000 in
theorem m_X3_defy {y : LY} {l : Launch}  {a0 : Int32} {a1 : Int32} {a2 : Int32} {σ : ST} {a : (Int32 × ST)} (h : T_X3_defy a0 a1 a2 σ = some a) : MU y l yX3_defy cX3_defy 6 (some .int) (rmd 8) [.ref (ad y 13), .int a0, .int a1, .int a2] σ (xI a) := by
  refine MU.of (φ := xI) h (by decide +kernel) rfl (fun E X Z hy => ?_)
  have X : CX y l E cX3_defy 6 RX3 (rmd 8) := X
  show WW y l E 6 _ 0 [(0, .ref (ad y 13)), (1, .int a0), (2, .int a1), (3, .int a2)] [] σ (T_X3_defy a0 a1 a2 σ)
  unfold T_X3_defy
  refine r_aload_n (pc := 0) X dX3_defy_0 0 rfl rfl ?_
  refine r_iload_n (pc := 1) X dX3_defy_1 1 rfl rfl ?_
  refine r_callvp (pc := 2) X dX3_defy_2 cf_X3_isBearer ml_X3_91 (rf rfl rfl) hy oc_13.1 hc_3 (fun b hb => m_X3_isBearer hb) rfl rfl (Nat.le_of_ble_eq_true rfl) (fun x1 => ?_)
  refine r_if_eq (pc := 5) (tgt := 15) X dX3_defy_5 (by decide) ?_ ?_
  · exact s_X3_defy_j15 X Z hy a0 a1 a2 σ
  · refine r_iload_n (pc := 8) X dX3_defy_8 2 rfl rfl ?_
    refine r_callsp (pc := 9) X dX3_defy_9 cf_X3_isPlace ml_X3_226 (rf rfl rfl) hy (fun b hb => m_X3_isPlace hb) rfl rfl (Nat.le_of_ble_eq_true rfl) (fun x3 => ?_)
    refine r_if_ne (pc := 12) (tgt := 19) X dX3_defy_12 (by decide) ?_ ?_
    · refine r_iload_n (pc := 19) X dX3_defy_19 3 rfl rfl ?_
      refine r_callsp (pc := 20) X dX3_defy_20 cf_X3_notHours ml_X3_235 (rf rfl rfl) hy (fun b hb => m_X3_notHours hb) rfl rfl (Nat.le_of_ble_eq_true rfl) (fun x5 => ?_)
      exact s_X3_defy_j23 X Z hy a0 a1 a2 x5 σ
    · exact s_X3_defy_j15 X Z hy a0 a1 a2 σ

set_option maxRecDepth 100000 in
theorem s_X3_digitOf_L7 {y : LY} {l : Launch} {E : ET} (X : CX y l E cX3_digitOf 5 RX3 (rmd 0)) (Z : ZX E (some .int)) (hy : y.1 ≤ (eS E).heap.size)  {σ : ST}   (n : Nat) : ∀ (v3 : Int32) (v4 : Int32), WW y l E 5 (fun a => QM y E (xp σ a)) 7 [(0, .ref (ad y 13)), (3, .int v3), (4, .int v4)] [] σ (T_X3_digitOf_L7 σ n v3 v4) := by
  induction n with
  | zero => intros; exact r_none rfl
  | succ n ih =>
    intro v3 v4
    unfold T_X3_digitOf_L7
    refine r_iload (pc := 7) X dX3_digitOf_7 2 rfl ?_
    refine r_aload_n (pc := 9) X dX3_digitOf_9 0 rfl rfl ?_
    refine r_geti (pc := 10) X dX3_digitOf_10 fl_X3_88 oc_13 rfl (fun x1 => ?_)
    refine r_icmp_ge (pc := 13) (tgt := 27) X dX3_digitOf_13 (by decide) ?_ ?_
    · refine r_iload_n (pc := 27) X dX3_digitOf_27 1 rfl rfl ?_
      refine r_bipush (pc := 28) X dX3_digitOf_28 kb_7 ?_
      refine r_irem (pc := 30) X dX3_digitOf_30 (by decide) ?_
      exact r_iret (pc := 31) X Z dX3_digitOf_31 rfl
    · refine r_iload_n (pc := 16) X dX3_digitOf_16 1 rfl rfl ?_
      refine r_bipush (pc := 17) X dX3_digitOf_17 kb_7 ?_
      refine r_idiv (pc := 19) X dX3_digitOf_19 (by decide) ?_
      refine r_vl (fun x2 => ?_)
      refine r_istore_n (pc := 20) (lv' := [(3, .int _), (0, .ref _), (4, .int _)]) X dX3_digitOf_20 rfl (by decide) rfl ?_
      refine r_iinc (pc := 21) (lv' := [(3, .int _), (0, .ref _)]) X dX3_digitOf_21 2 rfl (congrArg (fun z => v4 + z) kc_1) (by decide) rfl (fun x3 => ?_)
      refine r_goto (pc := 24) (tgt := 7) X dX3_digitOf_24 (by decide) ?_
      refine r_sub [2, 1, 0] rfl ?_
      exact ih x2 x3

set_option maxRecDepth 100000 in
theorem m_X3_digitOf {y : LY} {l : Launch}  {a0 : Int32} {a1 : Int32} {σ : ST} {a : Int32} (h : T_X3_digitOf σ a0 a1 = some a) : MU y l yX3_digitOf cX3_digitOf 5 (some .int) (rmd 0) [.ref (ad y 13), .int a0, .int a1] σ (xp σ a) := by
  refine MU.of (φ := xp σ) h (by decide +kernel) rfl (fun E X Z hy => ?_)
  have X : CX y l E cX3_digitOf 5 RX3 (rmd 0) := X
  show WW y l E 5 _ 0 [(0, .ref (ad y 13)), (1, .int a0), (2, .int a1)] [] σ (T_X3_digitOf σ a0 a1)
  unfold T_X3_digitOf
  refine r_iload_n (pc := 0) X dX3_digitOf_0 1 rfl rfl ?_
  refine r_istore_n (pc := 1) (lv' := [(3, .int _), (0, .ref _), (1, .int _), (2, .int _)]) X dX3_digitOf_1 rfl (by decide) rfl ?_
  refine r_iload_n (pc := 2) X dX3_digitOf_2 3 rfl rfl ?_
  refine r_iconst (pc := 3) X dX3_digitOf_3 kc_1 ?_
  refine r_iadd (pc := 4) X dX3_digitOf_4 ?_
  refine r_vl (fun x1 => ?_)
  refine r_istore (pc := 5) (lv' := [(4, .int _), (3, .int _), (0, .ref _), (1, .int _), (2, .int _)]) X dX3_digitOf_5 (by decide) rfl ?_
  refine r_sub [2, 1, 0] rfl ?_
  exact s_X3_digitOf_L7 X Z hy FU a0 x1

set_option maxRecDepth 100000 in
theorem s_X3_isWay_j95 {y : LY} {l : Launch} {E : ET} (X : CX y l E cX3_isWay 6 RX3 (rmd 1)) (Z : ZX E (some .boolean)) (hy : y.1 ≤ (eS E).heap.size)  {σ : ST}   (s0 : Int32) (s1 : Int32) : WW y l E 6 (fun a => QM y E (xp σ a)) 95 [] [.int s0, .int s1] σ (T_X3_isWay_j95 σ  s0 s1) := by
  unfold T_X3_isWay_j95
  refine r_icmp_ne (pc := 95) (tgt := 102) X dX3_isWay_95 (by decide) ?_ ?_
  · refine r_iconst (pc := 102) X dX3_isWay_102 kc_0 ?_
    exact r_zret (pc := 103) X Z dX3_isWay_103 rfl (Or.inl rfl)
  · refine r_iconst (pc := 98) X dX3_isWay_98 kc_1 ?_
    refine r_goto (pc := 99) (tgt := 103) X dX3_isWay_99 (by decide) ?_
    exact r_zret (pc := 103) X Z dX3_isWay_103 rfl (Or.inr rfl)

set_option maxRecDepth 100000 in
theorem s_X3_isWay_L7 {y : LY} {l : Launch} {E : ET} (X : CX y l E cX3_isWay 6 RX3 (rmd 1)) (Z : ZX E (some .boolean)) (hy : y.1 ≤ (eS E).heap.size)  {σ : ST}   (n : Nat) : ∀ (v1 : Int32) (v2 : Int32) (v3 : Int32) (v4 : Int32), WW y l E 6 (fun a => QM y E (xp σ a)) 7 [(0, .ref (ad y 13)), (1, .int v1), (2, .int v2), (3, .int v3), (4, .int v4)] [] σ (T_X3_isWay_L7 σ n v1 v2 v3 v4) := by
  induction n with
  | zero => intros; exact r_none rfl
  | succ n ih =>
    intro v1 v2 v3 v4
    unfold T_X3_isWay_L7
    refine r_iload (pc := 7) X dX3_isWay_7 4 rfl ?_
    refine r_aload_n (pc := 9) X dX3_isWay_9 0 rfl rfl ?_
    refine r_geti (pc := 10) X dX3_isWay_10 fl_X3_88 oc_13 rfl (fun x1 => ?_)
    refine r_icmp_ge (pc := 13) (tgt := 72) X dX3_isWay_13 (by decide) ?_ ?_
    · refine r_iload_n (pc := 72) X dX3_isWay_72 3 rfl rfl ?_
      refine r_aload_n (pc := 73) X dX3_isWay_73 0 rfl rfl ?_
      refine r_geti (pc := 74) X dX3_isWay_74 fl_X3_83 oc_13 rfl (fun x2 => ?_)
      refine r_aload_n (pc := 77) X dX3_isWay_77 0 rfl rfl ?_
      refine r_geti (pc := 78) X dX3_isWay_78 fl_X3_88 oc_13 rfl (fun x3 => ?_)
      refine r_icmp_ge (pc := 81) (tgt := 91) X dX3_isWay_81 (by decide) ?_ ?_
      · refine r_aload_n (pc := 91) X dX3_isWay_91 0 rfl rfl ?_
        refine r_geti (pc := 92) X dX3_isWay_92 fl_X3_88 oc_13 rfl (fun x4 => ?_)
        refine r_sub [] rfl ?_
        exact s_X3_isWay_j95 X Z hy x4 v3
      · refine r_aload_n (pc := 84) X dX3_isWay_84 0 rfl rfl ?_
        refine r_geti (pc := 85) X dX3_isWay_85 fl_X3_83 oc_13 rfl (fun x5 => ?_)
        refine r_goto (pc := 88) (tgt := 95) X dX3_isWay_88 (by decide) ?_
        refine r_sub [] rfl ?_
        exact s_X3_isWay_j95 X Z hy x5 v3
    · refine r_aload_n (pc := 16) X dX3_isWay_16 0 rfl rfl ?_
      refine r_iload_n (pc := 17) X dX3_isWay_17 1 rfl rfl ?_
      refine r_iload (pc := 18) X dX3_isWay_18 4 rfl ?_
      refine r_callvp (pc := 20) X dX3_isWay_20 cf_X3_digitOf ml_X3_275 (rf rfl rfl) hy oc_13.1 hc_3 (fun b hb => m_X3_digitOf hb) rfl rfl (Nat.le_of_ble_eq_true rfl) (fun x6 => ?_)
      refine r_istore (pc := 23) (lv' := [(5, .int _), (0, .ref _), (1, .int _), (2, .int _), (3, .int _), (4, .int _)]) X dX3_isWay_23 (by decide) rfl ?_
      refine r_iload (pc := 25) X dX3_isWay_25 0 rfl ?_
      refine r_bipush (pc := 27) X dX3_isWay_27 kb_6 ?_
      refine r_icmp_ne (pc := 29) (tgt := 35) X dX3_isWay_29 (by decide) ?_ ?_
      · refine r_iload (pc := 35) X dX3_isWay_35 0 rfl ?_
        refine r_aload_n (pc := 37) X dX3_isWay_37 1 rfl rfl ?_
        refine r_geti (pc := 38) X dX3_isWay_38 fl_X3_83 oc_13 rfl (fun x8 => ?_)
        refine r_icmp_ge (pc := 41) (tgt := 54) X dX3_isWay_41 (by decide) ?_ ?_
        · refine r_iconst (pc := 54) X dX3_isWay_54 kc_0 ?_
          exact r_zret (pc := 55) X Z dX3_isWay_55 rfl (Or.inl rfl)
        · refine r_iload_n (pc := 44) X dX3_isWay_44 3 rfl rfl ?_
          refine r_iload (pc := 45) X dX3_isWay_45 0 rfl ?_
          refine r_ishr (pc := 47) X dX3_isWay_47 rfl ?_
          refine r_iconst (pc := 48) X dX3_isWay_48 kc_1 ?_
          refine r_iand (pc := 49) X dX3_isWay_49 ?_
          refine r_iconst (pc := 50) X dX3_isWay_50 kc_1 ?_
          refine r_icmp_ne (pc := 51) (tgt := 56) X dX3_isWay_51 (by decide) ?_ ?_
          · refine r_iload_n (pc := 56) X dX3_isWay_56 3 rfl rfl ?_
            refine r_iconst (pc := 57) X dX3_isWay_57 kc_1 ?_
            refine r_iload (pc := 58) X dX3_isWay_58 0 rfl ?_
            refine r_ishl (pc := 60) X dX3_isWay_60 rfl ?_
            refine r_ior (pc := 61) X dX3_isWay_61 ?_
            refine r_vl (fun x9 => ?_)
            refine r_istore_n (pc := 62) (lv' := [(2, .int _), (5, .int _), (0, .ref _), (1, .int _), (3, .int _), (4, .int _)]) X dX3_isWay_62 rfl (by decide) rfl ?_
            refine r_iinc (pc := 63) (lv' := [(2, .int _), (5, .int _), (0, .ref _), (1, .int _), (4, .int _)]) X dX3_isWay_63 4 rfl (congrArg (fun z => v3 + z) kc_1) (by decide) rfl (fun x10 => ?_)
            refine r_iinc (pc := 66) (lv' := [(3, .int _), (2, .int _), (5, .int _), (0, .ref _), (1, .int _)]) X dX3_isWay_66 5 rfl (congrArg (fun z => v4 + z) kc_1) (by decide) rfl (fun x11 => ?_)
            refine r_goto (pc := 69) (tgt := 7) X dX3_isWay_69 (by decide) ?_
            refine r_sub [4, 5, 2, 1, 0] rfl ?_
            exact ih v1 x9 x10 x11
          · refine r_iconst (pc := 54) X dX3_isWay_54 kc_0 ?_
            exact r_zret (pc := 55) X Z dX3_isWay_55 rfl (Or.inl rfl)
      · refine r_goto (pc := 32) (tgt := 66) X dX3_isWay_32 (by decide) ?_
        refine r_iinc (pc := 66) (lv' := [(5, .int _), (0, .ref _), (1, .int _), (2, .int _), (3, .int _)]) X dX3_isWay_66 5 rfl (congrArg (fun z => v4 + z) kc_1) (by decide) rfl (fun x12 => ?_)
        refine r_goto (pc := 69) (tgt := 7) X dX3_isWay_69 (by decide) ?_
        refine r_sub [2, 3, 4, 5, 0] rfl ?_
        exact ih v1 v2 v3 x12

set_option maxRecDepth 100000 in
theorem m_X3_isWay {y : LY} {l : Launch}  {a0 : Int32} {σ : ST} {a : Int32} (h : T_X3_isWay σ a0 = some a) : MU y l yX3_isWay cX3_isWay 6 (some .boolean) (rmd 1) [.ref (ad y 13), .int a0] σ (xp σ a) := by
  refine MU.of (φ := xp σ) h (by decide +kernel) rfl (fun E X Z hy => ?_)
  have X : CX y l E cX3_isWay 6 RX3 (rmd 1) := X
  show WW y l E 6 _ 0 [(0, .ref (ad y 13)), (1, .int a0)] [] σ (T_X3_isWay σ a0)
  unfold T_X3_isWay
  refine r_iconst (pc := 0) X dX3_isWay_0 kc_0 ?_
  refine r_istore_n (pc := 1) (lv' := [(2, .int _), (0, .ref _), (1, .int _)]) X dX3_isWay_1 rfl (by decide) rfl ?_
  refine r_iconst (pc := 2) X dX3_isWay_2 kc_0 ?_
  refine r_istore_n (pc := 3) (lv' := [(3, .int _), (2, .int _), (0, .ref _), (1, .int _)]) X dX3_isWay_3 rfl (by decide) rfl ?_
  refine r_iconst (pc := 4) X dX3_isWay_4 kc_0 ?_
  refine r_istore (pc := 5) (lv' := [(4, .int _), (3, .int _), (2, .int _), (0, .ref _), (1, .int _)]) X dX3_isWay_5 (by decide) rfl ?_
  refine r_sub [3, 4, 2, 1, 0] rfl ?_
  exact s_X3_isWay_L7 X Z hy FU a0 0 0 0

set_option maxRecDepth 100000 in
theorem s_X3_givesAll_j34 {y : LY} {l : Launch} {E : ET} (X : CX y l E cX3_givesAll 4 RX3 (rmd 1)) (Z : ZX E none) (hy : y.1 ≤ (eS E).heap.size)   {K2 : Int32 → Int32 → ST → Option ST} (hK2 : ∀ (v1 : Int32) (v2 : Int32) (σ : ST), WW y l E 4 (fun a => QM y E (xV a)) 2 [(0, .ref (ad y 13)), (1, .int v1), (2, .int v2)] [] σ (K2 v1 v2 σ)) (v1 : Int32) (v2 : Int32) (v3 : Int32) (s0 : Int32) (s1 : Int32) (σ : ST) : WW y l E 4 (fun a => QM y E (xV a)) 34 [(0, .ref (ad y 13)), (1, .int v1), (2, .int v2), (3, .int v3)] [.int s0, .int s1, .ref (aa y 13 9)] σ (T_X3_givesAll_j34 K2  v1 v2 v3 s0 s1 σ) := by
  unfold T_X3_givesAll_j34
  refine r_iast (pc := 34) X dX3_givesAll_34 ar_13_9 (fun σ1 => ?_)
  refine r_iload_n (pc := 35) X dX3_givesAll_35 3 rfl rfl ?_
  refine r_bipush (pc := 36) X dX3_givesAll_36 kb_6 ?_
  refine r_icmp_ge (pc := 38) (tgt := 48) X dX3_givesAll_38 (by decide) ?_ ?_
  · refine r_iinc (pc := 48) (lv' := [(0, .ref _), (1, .int _), (3, .int _)]) X dX3_givesAll_48 2 rfl (congrArg (fun z => v2 + z) kc_1) (by decide) rfl (fun x2 => ?_)
    refine r_goto (pc := 51) (tgt := 2) X dX3_givesAll_51 (by decide) ?_
    refine r_sub [1, 2, 0] rfl ?_
    exact hK2 v1 x2 σ1
  · refine r_aload_n (pc := 41) X dX3_givesAll_41 0 rfl rfl ?_
    refine r_geta (pc := 42) X dX3_givesAll_42 fl_X3_25 oc_13 (by decide) ?_
    refine r_iload_n (pc := 45) X dX3_givesAll_45 3 rfl rfl ?_
    refine r_iconst (pc := 46) X dX3_givesAll_46 kc_0 ?_
    refine r_iast (pc := 47) X dX3_givesAll_47 ar_13_5 (fun σ3 => ?_)
    refine r_iinc (pc := 48) (lv' := [(0, .ref _), (1, .int _), (3, .int _)]) X dX3_givesAll_48 2 rfl (congrArg (fun z => v2 + z) kc_1) (by decide) rfl (fun x4 => ?_)
    refine r_goto (pc := 51) (tgt := 2) X dX3_givesAll_51 (by decide) ?_
    refine r_sub [1, 2, 0] rfl ?_
    exact hK2 v1 x4 σ3

set_option maxRecDepth 100000 in
theorem s_X3_givesAll_L2 {y : LY} {l : Launch} {E : ET} (X : CX y l E cX3_givesAll 4 RX3 (rmd 1)) (Z : ZX E none) (hy : y.1 ≤ (eS E).heap.size)     (n : Nat) : ∀ (v1 : Int32) (v2 : Int32) (σ : ST), WW y l E 4 (fun a => QM y E (xV a)) 2 [(0, .ref (ad y 13)), (1, .int v1), (2, .int v2)] [] σ (T_X3_givesAll_L2  n v1 v2 σ) := by
  induction n with
  | zero => intros; exact r_none rfl
  | succ n ih =>
    intro v1 v2 σ
    unfold T_X3_givesAll_L2
    refine r_iload_n (pc := 2) X dX3_givesAll_2 2 rfl rfl ?_
    refine r_aload_n (pc := 3) X dX3_givesAll_3 0 rfl rfl ?_
    refine r_geti (pc := 4) X dX3_givesAll_4 fl_X3_88 oc_13 rfl (fun x1 => ?_)
    refine r_icmp_ge (pc := 7) (tgt := 54) X dX3_givesAll_7 (by decide) ?_ ?_
    · exact r_vret (pc := 54) X Z dX3_givesAll_54 rfl
    · refine r_aload_n (pc := 10) X dX3_givesAll_10 0 rfl rfl ?_
      refine r_iload_n (pc := 11) X dX3_givesAll_11 1 rfl rfl ?_
      refine r_iload_n (pc := 12) X dX3_givesAll_12 2 rfl rfl ?_
      refine r_callvp (pc := 13) X dX3_givesAll_13 cf_X3_digitOf ml_X3_275 (rf rfl rfl) hy oc_13.1 hc_3 (fun b hb => m_X3_digitOf hb) rfl rfl (Nat.le_of_ble_eq_true rfl) (fun x2 => ?_)
      refine r_istore_n (pc := 16) (lv' := [(3, .int _), (0, .ref _), (1, .int _), (2, .int _)]) X dX3_givesAll_16 rfl (by decide) rfl ?_
      refine r_aload_n (pc := 17) X dX3_givesAll_17 1 rfl rfl ?_
      refine r_geta (pc := 18) X dX3_givesAll_18 fl_X3_37 oc_13 (by decide) ?_
      refine r_iload_n (pc := 21) X dX3_givesAll_21 3 rfl rfl ?_
      refine r_iload_n (pc := 22) X dX3_givesAll_22 0 rfl rfl ?_
      refine r_bipush (pc := 23) X dX3_givesAll_23 kb_6 ?_
      refine r_icmp_ne (pc := 25) (tgt := 33) X dX3_givesAll_25 (by decide) ?_ ?_
      · refine r_iload_n (pc := 33) X dX3_givesAll_33 0 rfl rfl ?_
        refine r_sub [1, 2, 3, 0] rfl ?_
        exact s_X3_givesAll_j34 X Z hy (fun v1 v2 s => ih v1 v2 s) v1 v2 x2 x2 v2 σ
      · refine r_bipush (pc := 28) X dX3_givesAll_28 kb_9 ?_
        refine r_goto (pc := 30) (tgt := 34) X dX3_givesAll_30 (by decide) ?_
        refine r_sub [1, 2, 3, 0] rfl ?_
        exact s_X3_givesAll_j34 X Z hy (fun v1 v2 s => ih v1 v2 s) v1 v2 x2 9 v2 σ

set_option maxRecDepth 100000 in
theorem m_X3_givesAll {y : LY} {l : Launch}  {a0 : Int32} {σ : ST} {a : ST} (h : T_X3_givesAll a0 σ = some a) : MU y l yX3_givesAll cX3_givesAll 4 none (rmd 1) [.ref (ad y 13), .int a0] σ (xV a) := by
  refine MU.of (φ := xV) h (by decide +kernel) rfl (fun E X Z hy => ?_)
  have X : CX y l E cX3_givesAll 4 RX3 (rmd 1) := X
  show WW y l E 4 _ 0 [(0, .ref (ad y 13)), (1, .int a0)] [] σ (T_X3_givesAll a0 σ)
  unfold T_X3_givesAll
  refine r_iconst (pc := 0) X dX3_givesAll_0 kc_0 ?_
  refine r_istore_n (pc := 1) (lv' := [(2, .int _), (0, .ref _), (1, .int _)]) X dX3_givesAll_1 rfl (by decide) rfl ?_
  refine r_sub [1, 2, 0] rfl ?_
  exact s_X3_givesAll_L2 X Z hy FU a0 0 σ

set_option maxRecDepth 100000 in
theorem s_X3_manyWays_L4 {y : LY} {l : Launch} {E : ET} (X : CX y l E cX3_manyWays 3 RX3 (rmd 0)) (Z : ZX E (some .int)) (hy : y.1 ≤ (eS E).heap.size)  {σ : ST}   (n : Nat) : ∀ (v1 : Int32) (v2 : Int32), WW y l E 3 (fun a => QM y E (xp σ a)) 4 [(0, .ref (ad y 13)), (1, .int v1), (2, .int v2)] [] σ (T_X3_manyWays_L4 σ n v1 v2) := by
  induction n with
  | zero => intros; exact r_none rfl
  | succ n ih =>
    intro v1 v2
    unfold T_X3_manyWays_L4
    refine r_iload_n (pc := 4) X dX3_manyWays_4 2 rfl rfl ?_
    refine r_aload_n (pc := 5) X dX3_manyWays_5 0 rfl rfl ?_
    refine r_geti (pc := 6) X dX3_manyWays_6 fl_X3_88 oc_13 rfl (fun x1 => ?_)
    refine r_icmp_ge (pc := 9) (tgt := 23) X dX3_manyWays_9 (by decide) ?_ ?_
    · refine r_iload_n (pc := 23) X dX3_manyWays_23 1 rfl rfl ?_
      exact r_iret (pc := 24) X Z dX3_manyWays_24 rfl
    · refine r_iload_n (pc := 12) X dX3_manyWays_12 1 rfl rfl ?_
      refine r_bipush (pc := 13) X dX3_manyWays_13 kb_7 ?_
      refine r_imul (pc := 15) X dX3_manyWays_15 ?_
      refine r_vl (fun x2 => ?_)
      refine r_istore_n (pc := 16) (lv' := [(1, .int _), (0, .ref _), (2, .int _)]) X dX3_manyWays_16 rfl (by decide) rfl ?_
      refine r_iinc (pc := 17) (lv' := [(1, .int _), (0, .ref _)]) X dX3_manyWays_17 2 rfl (congrArg (fun z => v2 + z) kc_1) (by decide) rfl (fun x3 => ?_)
      refine r_goto (pc := 20) (tgt := 4) X dX3_manyWays_20 (by decide) ?_
      refine r_sub [2, 1, 0] rfl ?_
      exact ih x2 x3

set_option maxRecDepth 100000 in
theorem m_X3_manyWays {y : LY} {l : Launch}   {σ : ST} {a : Int32} (h : T_X3_manyWays σ = some a) : MU y l yX3_manyWays cX3_manyWays 3 (some .int) (rmd 0) [.ref (ad y 13)] σ (xp σ a) := by
  refine MU.of (φ := xp σ) h (by decide +kernel) rfl (fun E X Z hy => ?_)
  have X : CX y l E cX3_manyWays 3 RX3 (rmd 0) := X
  show WW y l E 3 _ 0 [(0, .ref (ad y 13))] [] σ (T_X3_manyWays σ)
  unfold T_X3_manyWays
  refine r_iconst (pc := 0) X dX3_manyWays_0 kc_1 ?_
  refine r_istore_n (pc := 1) (lv' := [(1, .int _), (0, .ref _)]) X dX3_manyWays_1 rfl (by decide) rfl ?_
  refine r_iconst (pc := 2) X dX3_manyWays_2 kc_0 ?_
  refine r_istore_n (pc := 3) (lv' := [(2, .int _), (1, .int _), (0, .ref _)]) X dX3_manyWays_3 rfl (by decide) rfl ?_
  refine r_sub [2, 1, 0] rfl ?_
  exact s_X3_manyWays_L4 X Z hy FU 1 0

set_option maxRecDepth 100000 in
theorem s_X3_allLed_L10 {y : LY} {l : Launch} {E : ET} (X : CX y l E cX3_allLed 4 RX3 (rmd 8)) (Z : ZX E (some .int)) (hy : y.1 ≤ (eS E).heap.size)     (n : Nat) : ∀ (v2 : Int32) (v3 : Int32) (σ : ST), WW y l E 4 (fun a => QM y E (xI a)) 10 [(0, .ref (ad y 13)), (2, .int v2), (3, .int v3)] [] σ (T_X3_allLed_L10  n v2 v3 σ) := by
  induction n with
  | zero => intros; exact r_none rfl
  | succ n ih =>
    intro v2 v3 σ
    unfold T_X3_allLed_L10
    refine r_iload_n (pc := 10) X dX3_allLed_10 2 rfl rfl ?_
    refine r_aload_n (pc := 11) X dX3_allLed_11 0 rfl rfl ?_
    refine r_geti (pc := 12) X dX3_allLed_12 fl_X3_88 oc_13 rfl (fun x1 => ?_)
    refine r_icmp_ge (pc := 15) (tgt := 33) X dX3_allLed_15 (by decide) ?_ ?_
    · refine r_iload_n (pc := 33) X dX3_allLed_33 1 rfl rfl ?_
      exact r_iret (pc := 34) X Z dX3_allLed_34 rfl
    · refine r_iload_n (pc := 18) X dX3_allLed_18 1 rfl rfl ?_
      refine r_aload_n (pc := 19) X dX3_allLed_19 0 rfl rfl ?_
      refine r_geta (pc := 20) X dX3_allLed_20 fl_X3_58 oc_13 (by decide) ?_
      refine r_iload_n (pc := 23) X dX3_allLed_23 2 rfl rfl ?_
      refine r_iald (pc := 24) X dX3_allLed_24 ar_13_27 (fun x2 => ?_)
      refine r_iadd (pc := 25) X dX3_allLed_25 ?_
      refine r_vl (fun x3 => ?_)
      refine r_istore_n (pc := 26) (lv' := [(2, .int _), (0, .ref _), (3, .int _)]) X dX3_allLed_26 rfl (by decide) rfl ?_
      refine r_iinc (pc := 27) (lv' := [(2, .int _), (0, .ref _)]) X dX3_allLed_27 2 rfl (congrArg (fun z => v3 + z) kc_1) (by decide) rfl (fun x4 => ?_)
      refine r_goto (pc := 30) (tgt := 10) X dX3_allLed_30 (by decide) ?_
      refine r_sub [2, 1, 0] rfl ?_
      exact ih x3 x4 σ

set_option maxRecDepth 100000 in
theorem m_X3_allLed {y : LY} {l : Launch}  {a0 : Int32} {σ : ST} {a : (Int32 × ST)} (h : T_X3_allLed a0 σ = some a) : MU y l yX3_allLed cX3_allLed 4 (some .int) (rmd 8) [.ref (ad y 13), .int a0] σ (xI a) := by
  refine MU.of (φ := xI) h (by decide +kernel) rfl (fun E X Z hy => ?_)
  have X : CX y l E cX3_allLed 4 RX3 (rmd 8) := X
  show WW y l E 4 _ 0 [(0, .ref (ad y 13)), (1, .int a0)] [] σ (T_X3_allLed a0 σ)
  unfold T_X3_allLed
  refine r_aload_n (pc := 0) X dX3_allLed_0 0 rfl rfl ?_
  refine r_iload_n (pc := 1) X dX3_allLed_1 1 rfl rfl ?_
  refine r_callvI (pc := 2) X dX3_allLed_2 cf_X3_snapsIn ml_X3_256 (rf rfl rfl) hy oc_13.1 hc_3 (fun b hb => m_X3_snapsIn hb) rfl rfl (Nat.le_of_ble_eq_true rfl) (fun x1 σ2 => ?_)
  refine r_pop (pc := 5) X dX3_allLed_5 rfl ?_
  refine r_iconst (pc := 6) X dX3_allLed_6 kc_0 ?_
  refine r_istore_n (pc := 7) (lv' := [(2, .int _), (0, .ref _), (1, .int _)]) X dX3_allLed_7 rfl (by decide) rfl ?_
  refine r_iconst (pc := 8) X dX3_allLed_8 kc_0 ?_
  refine r_istore_n (pc := 9) (lv' := [(3, .int _), (2, .int _), (0, .ref _), (1, .int _)]) X dX3_allLed_9 rfl (by decide) rfl ?_
  refine r_sub [2, 1, 0] rfl ?_
  exact s_X3_allLed_L10 X Z hy FU 0 0 σ2

set_option maxRecDepth 100000 in
theorem s_X3_bestWay_j93 {y : LY} {l : Launch} {E : ET} (X : CX y l E cX3_bestWay 7 RX3 (rmd 9)) (Z : ZX E (some .int)) (hy : y.1 ≤ (eS E).heap.size)   {K7 : Int32 → Int32 → Int32 → Int32 → Int32 → ST → Option (Int32 × ST)} (hK7 : ∀ (v1 : Int32) (v2 : Int32) (v3 : Int32) (v4 : Int32) (v5 : Int32) (σ : ST), WW y l E 7 (fun a => QM y E (xI a)) 7 [(0, .ref (ad y 13)), (1, .int v1), (2, .int v2), (3, .int v3), (4, .int v4), (5, .int v5)] [] σ (K7 v1 v2 v3 v4 v5 σ)) (v1 : Int32) (v2 : Int32) (v3 : Int32) (v5 : Int32) (v6 : Int32) (σ : ST) : WW y l E 7 (fun a => QM y E (xI a)) 93 [(0, .ref (ad y 13)), (1, .int v1), (2, .int v2), (3, .int v3), (5, .int v5), (6, .int v6)] [] σ (T_X3_bestWay_j93 K7  v1 v2 v3 v5 v6 σ) := by
  unfold T_X3_bestWay_j93
  refine r_iload (pc := 93) X dX3_bestWay_93 4 rfl ?_
  refine r_istore (pc := 95) (lv' := [(4, .int _), (0, .ref _), (1, .int _), (2, .int _), (3, .int _), (5, .int _), (6, .int _)]) X dX3_bestWay_95 (by decide) rfl ?_
  refine r_aload_n (pc := 97) X dX3_bestWay_97 1 rfl rfl ?_
  refine r_iload (pc := 98) X dX3_bestWay_98 6 rfl ?_
  refine r_puti (pc := 100) X dX3_bestWay_100 fl_X3_290 fw_3_31 oc_13 rfl (fun σ1 => ?_)
  refine r_iinc (pc := 103) (lv' := [(4, .int _), (0, .ref _), (1, .int _), (2, .int _), (3, .int _), (6, .int _)]) X dX3_bestWay_103 5 rfl (congrArg (fun z => v5 + z) kc_1) (by decide) rfl (fun x2 => ?_)
  refine r_goto (pc := 106) (tgt := 7) X dX3_bestWay_106 (by decide) ?_
  refine r_sub [2, 3, 4, 5, 1, 0] rfl ?_
  exact hK7 v1 v2 v3 v5 x2 σ1

set_option maxRecDepth 100000 in
theorem s_X3_bestWay_j76 {y : LY} {l : Launch} {E : ET} (X : CX y l E cX3_bestWay 7 RX3 (rmd 9)) (Z : ZX E (some .int)) (hy : y.1 ≤ (eS E).heap.size)   {K7 : Int32 → Int32 → Int32 → Int32 → Int32 → ST → Option (Int32 × ST)} (hK7 : ∀ (v1 : Int32) (v2 : Int32) (v3 : Int32) (v4 : Int32) (v5 : Int32) (σ : ST), WW y l E 7 (fun a => QM y E (xI a)) 7 [(0, .ref (ad y 13)), (1, .int v1), (2, .int v2), (3, .int v3), (4, .int v4), (5, .int v5)] [] σ (K7 v1 v2 v3 v4 v5 σ)) (v1 : Int32) (v2 : Int32) (v3 : Int32) (v4 : Int32) (v5 : Int32) (v6 : Int32) (σ : ST) : WW y l E 7 (fun a => QM y E (xI a)) 76 [(0, .ref (ad y 13)), (1, .int v1), (2, .int v2), (3, .int v3), (4, .int v4), (5, .int v5), (6, .int v6)] [] σ (T_X3_bestWay_j76 K7  v1 v2 v3 v4 v5 v6 σ) := by
  unfold T_X3_bestWay_j76
  refine r_iload (pc := 76) X dX3_bestWay_76 4 rfl ?_
  refine r_if_lt (pc := 78) (tgt := 93) X dX3_bestWay_78 (by decide) ?_ ?_
  · refine r_sub [0, 1, 2, 3, 5, 6] rfl ?_
    exact s_X3_bestWay_j93 X Z hy hK7 v1 v2 v3 v5 v6 σ
  · refine r_iload (pc := 81) X dX3_bestWay_81 6 rfl ?_
    refine r_aload_n (pc := 83) X dX3_bestWay_83 0 rfl rfl ?_
    refine r_geti (pc := 84) X dX3_bestWay_84 fl_X3_290 oc_13 rfl (fun x1 => ?_)
    refine r_icmp_lt (pc := 87) (tgt := 93) X dX3_bestWay_87 (by decide) ?_ ?_
    · refine r_sub [0, 1, 2, 3, 5, 6] rfl ?_
      exact s_X3_bestWay_j93 X Z hy hK7 v1 v2 v3 v5 v6 σ
    · refine r_goto (pc := 90) (tgt := 103) X dX3_bestWay_90 (by decide) ?_
      refine r_iinc (pc := 103) (lv' := [(0, .ref _), (1, .int _), (2, .int _), (3, .int _), (4, .int _), (6, .int _)]) X dX3_bestWay_103 5 rfl (congrArg (fun z => v5 + z) kc_1) (by decide) rfl (fun x2 => ?_)
      refine r_goto (pc := 106) (tgt := 7) X dX3_bestWay_106 (by decide) ?_
      refine r_sub [1, 2, 3, 4, 5, 0] rfl ?_
      exact hK7 v1 v2 v3 v4 x2 σ

set_option maxRecDepth 100000 in
theorem s_X3_bestWay_j58 {y : LY} {l : Launch} {E : ET} (X : CX y l E cX3_bestWay 7 RX3 (rmd 9)) (Z : ZX E (some .int)) (hy : y.1 ≤ (eS E).heap.size)   {K7 : Int32 → Int32 → Int32 → Int32 → Int32 → ST → Option (Int32 × ST)} (hK7 : ∀ (v1 : Int32) (v2 : Int32) (v3 : Int32) (v4 : Int32) (v5 : Int32) (σ : ST), WW y l E 7 (fun a => QM y E (xI a)) 7 [(0, .ref (ad y 13)), (1, .int v1), (2, .int v2), (3, .int v3), (4, .int v4), (5, .int v5)] [] σ (K7 v1 v2 v3 v4 v5 σ)) (v1 : Int32) (v2 : Int32) (v3 : Int32) (v4 : Int32) (v5 : Int32) (s0 : Int32) (σ : ST) : WW y l E 7 (fun a => QM y E (xI a)) 58 [(0, .ref (ad y 13)), (1, .int v1), (2, .int v2), (3, .int v3), (4, .int v4), (5, .int v5)] [.int s0] σ (T_X3_bestWay_j58 K7  v1 v2 v3 v4 v5 s0 σ) := by
  unfold T_X3_bestWay_j58
  refine r_istore (pc := 58) (lv' := [(6, .int _), (0, .ref _), (1, .int _), (2, .int _), (3, .int _), (4, .int _), (5, .int _)]) X dX3_bestWay_58 (by decide) rfl ?_
  refine r_aload_n (pc := 60) X dX3_bestWay_60 1 rfl rfl ?_
  refine r_iconst (pc := 61) X dX3_bestWay_61 kc_1 ?_
  refine r_iconst (pc := 62) X dX3_bestWay_62 kc_0 ?_
  refine r_callvV (pc := 63) X dX3_bestWay_63 cf_X3_passesAll ml_X3_161 (rf rfl rfl) hy oc_13.1 hc_3 (fun b hb => m_X3_passesAll hb) rfl rfl (Nat.le_of_ble_eq_true rfl) (fun σ2 => ?_)
  refine r_iload (pc := 66) X dX3_bestWay_66 0 rfl ?_
  refine r_if_ge (pc := 68) (tgt := 76) X dX3_bestWay_68 (by decide) ?_ ?_
  · refine r_sub [1, 2, 3, 4, 5, 6, 0] rfl ?_
    exact s_X3_bestWay_j76 X Z hy hK7 v1 v2 v3 v4 v5 s0 σ2
  · refine r_sipush (pc := 71) X dX3_bestWay_71 ks_1000 ?_
    refine r_istore (pc := 74) (lv' := [(6, .int _), (0, .ref _), (1, .int _), (2, .int _), (3, .int _), (4, .int _), (5, .int _)]) X dX3_bestWay_74 (by decide) rfl ?_
    refine r_sub [1, 2, 3, 4, 5, 6, 0] rfl ?_
    exact s_X3_bestWay_j76 X Z hy hK7 v1 v2 v3 v4 v5 1000 σ2

set_option maxRecDepth 100000 in
theorem s_X3_bestWay_L7 {y : LY} {l : Launch} {E : ET} (X : CX y l E cX3_bestWay 7 RX3 (rmd 9)) (Z : ZX E (some .int)) (hy : y.1 ≤ (eS E).heap.size)     (n : Nat) : ∀ (v1 : Int32) (v2 : Int32) (v3 : Int32) (v4 : Int32) (v5 : Int32) (σ : ST), WW y l E 7 (fun a => QM y E (xI a)) 7 [(0, .ref (ad y 13)), (1, .int v1), (2, .int v2), (3, .int v3), (4, .int v4), (5, .int v5)] [] σ (T_X3_bestWay_L7  n v1 v2 v3 v4 v5 σ) := by
  induction n with
  | zero => intros; exact r_none rfl
  | succ n ih =>
    intro v1 v2 v3 v4 v5 σ
    unfold T_X3_bestWay_L7
    refine r_iload (pc := 7) X dX3_bestWay_7 5 rfl ?_
    refine r_aload_n (pc := 9) X dX3_bestWay_9 0 rfl rfl ?_
    refine r_callvp (pc := 10) X dX3_bestWay_10 cf_X3_manyWays ml_X3_278 (rf rfl rfl) hy oc_13.1 hc_3 (fun b hb => m_X3_manyWays hb) rfl rfl (Nat.le_of_ble_eq_true rfl) (fun x1 => ?_)
    refine r_icmp_ge (pc := 13) (tgt := 109) X dX3_bestWay_13 (by decide) ?_ ?_
    · refine r_iload (pc := 109) X dX3_bestWay_109 4 rfl ?_
      exact r_iret (pc := 111) X Z dX3_bestWay_111 rfl
    · refine r_aload_n (pc := 16) X dX3_bestWay_16 0 rfl rfl ?_
      refine r_iload (pc := 17) X dX3_bestWay_17 5 rfl ?_
      refine r_callvp (pc := 19) X dX3_bestWay_19 cf_X3_isWay ml_X3_281 (rf rfl rfl) hy oc_13.1 hc_3 (fun b hb => m_X3_isWay hb) rfl rfl (Nat.le_of_ble_eq_true rfl) (fun x3 => ?_)
      refine r_if_ne (pc := 22) (tgt := 28) X dX3_bestWay_22 (by decide) ?_ ?_
      · refine r_aload_n (pc := 28) X dX3_bestWay_28 0 rfl rfl ?_
        refine r_iconst (pc := 29) X dX3_bestWay_29 kc_1 ?_
        refine r_iconst (pc := 30) X dX3_bestWay_30 kc_1 ?_
        refine r_callvV (pc := 31) X dX3_bestWay_31 cf_X3_passesAll ml_X3_161 (rf rfl rfl) hy oc_13.1 hc_3 (fun b hb => m_X3_passesAll hb) rfl rfl (Nat.le_of_ble_eq_true rfl) (fun σ6 => ?_)
        refine r_aload_n (pc := 34) X dX3_bestWay_34 0 rfl rfl ?_
        refine r_iload (pc := 35) X dX3_bestWay_35 5 rfl ?_
        refine r_callvV (pc := 37) X dX3_bestWay_37 cf_X3_givesAll ml_X3_284 (rf rfl rfl) hy oc_13.1 hc_3 (fun b hb => m_X3_givesAll hb) rfl rfl (Nat.le_of_ble_eq_true rfl) (fun σ8 => ?_)
        refine r_iload_n (pc := 40) X dX3_bestWay_40 1 rfl rfl ?_
        refine r_if_ge (pc := 41) (tgt := 52) X dX3_bestWay_41 (by decide) ?_ ?_
        · refine r_aload_n (pc := 52) X dX3_bestWay_52 0 rfl rfl ?_
          refine r_iload_n (pc := 53) X dX3_bestWay_53 1 rfl rfl ?_
          refine r_iload_n (pc := 54) X dX3_bestWay_54 2 rfl rfl ?_
          refine r_callvI (pc := 55) X dX3_bestWay_55 cf_X3_meetsIn ml_X3_247 (rf rfl rfl) hy oc_13.1 hc_3 (fun b hb => m_X3_meetsIn hb) rfl rfl (Nat.le_of_ble_eq_true rfl) (fun x9 σ10 => ?_)
          exact s_X3_bestWay_j58 X Z hy (fun v1 v2 v3 v4 v5 s => ih v1 v2 v3 v4 v5 s) v1 v2 v3 v4 v5 x9 σ10
        · refine r_aload_n (pc := 44) X dX3_bestWay_44 0 rfl rfl ?_
          refine r_iload_n (pc := 45) X dX3_bestWay_45 3 rfl rfl ?_
          refine r_callvI (pc := 46) X dX3_bestWay_46 cf_X3_allLed ml_X3_287 (rf rfl rfl) hy oc_13.1 hc_3 (fun b hb => m_X3_allLed hb) rfl rfl (Nat.le_of_ble_eq_true rfl) (fun x11 σ12 => ?_)
          refine r_goto (pc := 49) (tgt := 58) X dX3_bestWay_49 (by decide) ?_
          exact s_X3_bestWay_j58 X Z hy (fun v1 v2 v3 v4 v5 s => ih v1 v2 v3 v4 v5 s) v1 v2 v3 v4 v5 x11 σ12
      · refine r_goto (pc := 25) (tgt := 103) X dX3_bestWay_25 (by decide) ?_
        refine r_iinc (pc := 103) (lv' := [(0, .ref _), (1, .int _), (2, .int _), (3, .int _), (4, .int _)]) X dX3_bestWay_103 5 rfl (congrArg (fun z => v5 + z) kc_1) (by decide) rfl (fun x13 => ?_)
        refine r_goto (pc := 106) (tgt := 7) X dX3_bestWay_106 (by decide) ?_
        refine r_sub [1, 2, 3, 4, 5, 0] rfl ?_
        exact ih v1 v2 v3 v4 x13 σ

set_option maxRecDepth 100000 in
theorem m_X3_bestWay {y : LY} {l : Launch}  {a0 : Int32} {a1 : Int32} {a2 : Int32} {σ : ST} {a : (Int32 × ST)} (h : T_X3_bestWay a0 a1 a2 σ = some a) : MU y l yX3_bestWay cX3_bestWay 7 (some .int) (rmd 9) [.ref (ad y 13), .int a0, .int a1, .int a2] σ (xI a) := by
  refine MU.of (φ := xI) h (by decide +kernel) rfl (fun E X Z hy => ?_)
  have X : CX y l E cX3_bestWay 7 RX3 (rmd 9) := X
  show WW y l E 7 _ 0 [(0, .ref (ad y 13)), (1, .int a0), (2, .int a1), (3, .int a2)] [] σ (T_X3_bestWay a0 a1 a2 σ)
  unfold T_X3_bestWay
  refine r_bipush (pc := 0) X dX3_bestWay_0 kb_m9 ?_
  refine r_istore (pc := 2) (lv' := [(4, .int _), (0, .ref _), (1, .int _), (2, .int _), (3, .int _)]) X dX3_bestWay_2 (by decide) rfl ?_
  refine r_iconst (pc := 4) X dX3_bestWay_4 kc_0 ?_
  refine r_istore (pc := 5) (lv' := [(5, .int _), (4, .int _), (0, .ref _), (1, .int _), (2, .int _), (3, .int _)]) X dX3_bestWay_5 (by decide) rfl ?_
  refine r_sub [2, 3, 4, 5, 1, 0] rfl ?_
  exact s_X3_bestWay_L7 X Z hy FU a0 a1 a2 ((-9)) 0 σ

set_option maxRecDepth 100000 in
theorem m_X3_bagBy {y : LY} {l : Launch}  {a0 : Int32} {a1 : Int32} {σ : ST} {a : Int32} (h : T_X3_bagBy σ a0 a1 = some a) : MU y l yX3_bagBy cX3_bagBy 3 (some .int) (rmd 1) [.ref (ad y 13), .int a0, .int a1] σ (xp σ a) := by
  refine MU.of (φ := xp σ) h (by decide +kernel) rfl (fun E X Z hy => ?_)
  have X : CX y l E cX3_bagBy 3 RX3 (rmd 1) := X
  show WW y l E 3 _ 0 [(0, .ref (ad y 13)), (1, .int a0), (2, .int a1)] [] σ (T_X3_bagBy σ a0 a1)
  unfold T_X3_bagBy
  refine r_iload_n (pc := 0) X dX3_bagBy_0 2 rfl rfl ?_
  refine r_aload_n (pc := 1) X dX3_bagBy_1 0 rfl rfl ?_
  refine r_geti (pc := 2) X dX3_bagBy_2 fl_X3_88 oc_13 rfl (fun x1 => ?_)
  refine r_icmp_ge (pc := 5) (tgt := 19) X dX3_bagBy_5 (by decide) ?_ ?_
  · refine r_bipush (pc := 19) X dX3_bagBy_19 kb_m9 ?_
    refine r_goto (pc := 21) (tgt := 30) X dX3_bagBy_21 (by decide) ?_
    exact r_iret (pc := 30) X Z dX3_bagBy_30 rfl
  · refine r_aload_n (pc := 8) X dX3_bagBy_8 0 rfl rfl ?_
    refine r_iload_n (pc := 9) X dX3_bagBy_9 1 rfl rfl ?_
    refine r_iload_n (pc := 10) X dX3_bagBy_10 2 rfl rfl ?_
    refine r_callvp (pc := 11) X dX3_bagBy_11 cf_X3_digitOf ml_X3_275 (rf rfl rfl) hy oc_13.1 hc_3 (fun b hb => m_X3_digitOf hb) rfl rfl (Nat.le_of_ble_eq_true rfl) (fun x2 => ?_)
    refine r_bipush (pc := 14) X dX3_bagBy_14 kb_6 ?_
    refine r_icmp_ne (pc := 16) (tgt := 24) X dX3_bagBy_16 (by decide) ?_ ?_
    · refine r_aload_n (pc := 24) X dX3_bagBy_24 0 rfl rfl ?_
      refine r_iload_n (pc := 25) X dX3_bagBy_25 1 rfl rfl ?_
      refine r_iload_n (pc := 26) X dX3_bagBy_26 2 rfl rfl ?_
      refine r_callvp (pc := 27) X dX3_bagBy_27 cf_X3_digitOf ml_X3_275 (rf rfl rfl) hy oc_13.1 hc_3 (fun b hb => m_X3_digitOf hb) rfl rfl (Nat.le_of_ble_eq_true rfl) (fun x4 => ?_)
      exact r_iret (pc := 30) X Z dX3_bagBy_30 rfl
    · refine r_bipush (pc := 19) X dX3_bagBy_19 kb_m9 ?_
      refine r_goto (pc := 21) (tgt := 30) X dX3_bagBy_21 (by decide) ?_
      exact r_iret (pc := 30) X Z dX3_bagBy_30 rfl

set_option maxRecDepth 100000 in
theorem s_X3_given_j37 {y : LY} {l : Launch} {E : ET} (X : CX y l E cX3_given 6 RX3 (rmd 10)) (Z : ZX E (some .int)) (hy : y.1 ≤ (eS E).heap.size)     (v1 : Int32) (v2 : Int32) (v3 : Int32) (s0 : Int32) (σ : ST) : WW y l E 6 (fun a => QM y E (xI a)) 37 [(0, .ref (ad y 13)), (1, .int v1), (2, .int v2), (3, .int v3)] [.int s0] σ (T_X3_given_j37   v1 v2 v3 s0 σ) := by
  unfold T_X3_given_j37
  refine r_istore (pc := 37) (lv' := [(4, .int _), (0, .ref _), (1, .int _), (2, .int _), (3, .int _)]) X dX3_given_37 (by decide) rfl ?_
  refine r_iload (pc := 39) X dX3_given_39 0 rfl ?_
  refine r_if_eq (pc := 41) (tgt := 51) X dX3_given_41 (by decide) ?_ ?_
  · refine r_aload_n (pc := 51) X dX3_given_51 1 rfl rfl ?_
    refine r_iload_n (pc := 52) X dX3_given_52 2 rfl rfl ?_
    refine r_iload_n (pc := 53) X dX3_given_53 3 rfl rfl ?_
    refine r_iconst (pc := 54) X dX3_given_54 kc_0 ?_
    refine r_callvI (pc := 55) X dX3_given_55 cf_X3_bestWay ml_X3_293 (rf rfl rfl) hy oc_13.1 hc_3 (fun b hb => m_X3_bestWay hb) rfl rfl (Nat.le_of_ble_eq_true rfl) (fun x1 σ2 => ?_)
    refine r_istore (pc := 58) (lv' := [(5, .int _), (4, .int _), (0, .ref _), (1, .int _), (2, .int _), (3, .int _)]) X dX3_given_58 (by decide) rfl ?_
    refine r_iload_n (pc := 60) X dX3_given_60 5 rfl rfl ?_
    refine r_if_lt (pc := 61) (tgt := 74) X dX3_given_61 (by decide) ?_ ?_
    · refine r_aload_n (pc := 74) X dX3_given_74 2 rfl rfl ?_
      refine r_geti (pc := 75) X dX3_given_75 fl_X3_290 oc_13 rfl (fun x3 => ?_)
      refine r_sipush (pc := 78) X dX3_given_78 ks_1000 ?_
      refine r_icmp_ne (pc := 81) (tgt := 89) X dX3_given_81 (by decide) ?_ ?_
      · refine r_aload_n (pc := 89) X dX3_given_89 2 rfl rfl ?_
        refine r_geti (pc := 90) X dX3_given_90 fl_X3_290 oc_13 rfl (fun x4 => ?_)
        exact r_iret (pc := 93) X Z dX3_given_93 rfl
      · refine r_bipush (pc := 84) X dX3_given_84 kb_m9 ?_
        refine r_goto (pc := 86) (tgt := 93) X dX3_given_86 (by decide) ?_
        exact r_iret (pc := 93) X Z dX3_given_93 rfl
    · refine r_aload_n (pc := 64) X dX3_given_64 2 rfl rfl ?_
      refine r_iload (pc := 65) X dX3_given_65 0 rfl ?_
      refine r_iload_n (pc := 67) X dX3_given_67 5 rfl rfl ?_
      refine r_callvp (pc := 68) X dX3_given_68 cf_X3_bagBy ml_X3_296 (rf rfl rfl) hy oc_13.1 hc_3 (fun b hb => m_X3_bagBy hb) rfl rfl (Nat.le_of_ble_eq_true rfl) (fun x5 => ?_)
      refine r_goto (pc := 71) (tgt := 93) X dX3_given_71 (by decide) ?_
      exact r_iret (pc := 93) X Z dX3_given_93 rfl
  · refine r_aload_n (pc := 44) X dX3_given_44 1 rfl rfl ?_
    refine r_iload (pc := 45) X dX3_given_45 0 rfl ?_
    refine r_callvI (pc := 47) X dX3_given_47 cf_X3_no ml_X3_102 (rf rfl rfl) hy oc_13.1 hc_3 (fun b hb => m_X3_no hb) rfl rfl (Nat.le_of_ble_eq_true rfl) (fun x7 σ8 => ?_)
    exact r_iret (pc := 50) X Z dX3_given_50 rfl

set_option maxRecDepth 100000 in
theorem m_X3_given {y : LY} {l : Launch}  {a0 : Int32} {a1 : Int32} {a2 : Int32} {σ : ST} {a : (Int32 × ST)} (h : T_X3_given a0 a1 a2 σ = some a) : MU y l yX3_given cX3_given 6 (some .int) (rmd 10) [.ref (ad y 13), .int a0, .int a1, .int a2] σ (xI a) := by
  refine MU.of (φ := xI) h (by decide +kernel) rfl (fun E X Z hy => ?_)
  have X : CX y l E cX3_given 6 RX3 (rmd 10) := X
  show WW y l E 6 _ 0 [(0, .ref (ad y 13)), (1, .int a0), (2, .int a1), (3, .int a2)] [] σ (T_X3_given a0 a1 a2 σ)
  unfold T_X3_given
  refine r_aload_n (pc := 0) X dX3_given_0 0 rfl rfl ?_
  refine r_iload_n (pc := 1) X dX3_given_1 1 rfl rfl ?_
  refine r_iload_n (pc := 2) X dX3_given_2 2 rfl rfl ?_
  refine r_callvp (pc := 3) X dX3_given_3 cf_X3_areTwo ml_X3_244 (rf rfl rfl) hy oc_13.1 hc_3 (fun b hb => m_X3_areTwo hb) rfl rfl (Nat.le_of_ble_eq_true rfl) (fun x1 => ?_)
  refine r_if_ne (pc := 6) (tgt := 13) X dX3_given_6 (by decide) ?_ ?_
  · refine r_iload_n (pc := 13) X dX3_given_13 3 rfl rfl ?_
    refine r_iconst (pc := 14) X dX3_given_14 kc_m1 ?_
    refine r_icmp_ge (pc := 15) (tgt := 23) X dX3_given_15 (by decide) ?_ ?_
    · refine r_aload_n (pc := 23) X dX3_given_23 0 rfl rfl ?_
      refine r_geti (pc := 24) X dX3_given_24 fl_X3_88 oc_13 rfl (fun x3 => ?_)
      refine r_iconst (pc := 27) X dX3_given_27 kc_4 ?_
      refine r_icmp_le (pc := 28) (tgt := 36) X dX3_given_28 (by decide) ?_ ?_
      · refine r_iconst (pc := 36) X dX3_given_36 kc_0 ?_
        exact s_X3_given_j37 X Z hy a0 a1 a2 0 σ
      · refine r_bipush (pc := 31) X dX3_given_31 kb_m3 ?_
        refine r_goto (pc := 33) (tgt := 37) X dX3_given_33 (by decide) ?_
        exact s_X3_given_j37 X Z hy a0 a1 a2 ((-3)) σ
    · refine r_bipush (pc := 18) X dX3_given_18 kb_m4 ?_
      refine r_goto (pc := 20) (tgt := 37) X dX3_given_20 (by decide) ?_
      exact s_X3_given_j37 X Z hy a0 a1 a2 ((-4)) σ
  · refine r_iconst (pc := 9) X dX3_given_9 kc_m1 ?_
    refine r_goto (pc := 10) (tgt := 37) X dX3_given_10 (by decide) ?_
    exact s_X3_given_j37 X Z hy a0 a1 a2 ((-1)) σ

set_option maxRecDepth 100000 in
theorem s_X3_quiet_j39 {y : LY} {l : Launch} {E : ET} (X : CX y l E cX3_quiet 5 RX3 (rmd 10)) (Z : ZX E (some .int)) (hy : y.1 ≤ (eS E).heap.size)     (v1 : Int32) (v2 : Int32) (s0 : Int32) (σ : ST) : WW y l E 5 (fun a => QM y E (xI a)) 39 [(0, .ref (ad y 13)), (1, .int v1), (2, .int v2)] [.int s0] σ (T_X3_quiet_j39   v1 v2 s0 σ) := by
  unfold T_X3_quiet_j39
  refine r_istore_n (pc := 39) (lv' := [(3, .int _), (0, .ref _), (1, .int _), (2, .int _)]) X dX3_quiet_39 rfl (by decide) rfl ?_
  refine r_iload_n (pc := 40) X dX3_quiet_40 0 rfl rfl ?_
  refine r_if_eq (pc := 41) (tgt := 50) X dX3_quiet_41 (by decide) ?_ ?_
  · refine r_aload_n (pc := 50) X dX3_quiet_50 1 rfl rfl ?_
    refine r_iconst (pc := 51) X dX3_quiet_51 kc_m1 ?_
    refine r_iconst (pc := 52) X dX3_quiet_52 kc_m1 ?_
    refine r_iload_n (pc := 53) X dX3_quiet_53 2 rfl rfl ?_
    refine r_callvI (pc := 54) X dX3_quiet_54 cf_X3_bestWay ml_X3_293 (rf rfl rfl) hy oc_13.1 hc_3 (fun b hb => m_X3_bestWay hb) rfl rfl (Nat.le_of_ble_eq_true rfl) (fun x1 σ2 => ?_)
    refine r_istore (pc := 57) (lv' := [(4, .int _), (3, .int _), (0, .ref _), (1, .int _), (2, .int _)]) X dX3_quiet_57 (by decide) rfl ?_
    refine r_iload_n (pc := 59) X dX3_quiet_59 4 rfl rfl ?_
    refine r_if_lt (pc := 60) (tgt := 73) X dX3_quiet_60 (by decide) ?_ ?_
    · refine r_aload_n (pc := 73) X dX3_quiet_73 2 rfl rfl ?_
      refine r_geti (pc := 74) X dX3_quiet_74 fl_X3_290 oc_13 rfl (fun x3 => ?_)
      exact r_iret (pc := 77) X Z dX3_quiet_77 rfl
    · refine r_aload_n (pc := 63) X dX3_quiet_63 2 rfl rfl ?_
      refine r_iload (pc := 64) X dX3_quiet_64 0 rfl ?_
      refine r_iload_n (pc := 66) X dX3_quiet_66 4 rfl rfl ?_
      refine r_callvp (pc := 67) X dX3_quiet_67 cf_X3_bagBy ml_X3_296 (rf rfl rfl) hy oc_13.1 hc_3 (fun b hb => m_X3_bagBy hb) rfl rfl (Nat.le_of_ble_eq_true rfl) (fun x4 => ?_)
      refine r_goto (pc := 70) (tgt := 77) X dX3_quiet_70 (by decide) ?_
      exact r_iret (pc := 77) X Z dX3_quiet_77 rfl
  · refine r_aload_n (pc := 44) X dX3_quiet_44 1 rfl rfl ?_
    refine r_iload_n (pc := 45) X dX3_quiet_45 0 rfl rfl ?_
    refine r_callvI (pc := 46) X dX3_quiet_46 cf_X3_no ml_X3_102 (rf rfl rfl) hy oc_13.1 hc_3 (fun b hb => m_X3_no hb) rfl rfl (Nat.le_of_ble_eq_true rfl) (fun x6 σ7 => ?_)
    exact r_iret (pc := 49) X Z dX3_quiet_49 rfl

set_option maxRecDepth 100000 in
theorem s_X3_quiet_j9 {y : LY} {l : Launch} {E : ET} (X : CX y l E cX3_quiet 5 RX3 (rmd 10)) (Z : ZX E (some .int)) (hy : y.1 ≤ (eS E).heap.size)     (v1 : Int32) (v2 : Int32) (σ : ST) : WW y l E 5 (fun a => QM y E (xI a)) 9 [(0, .ref (ad y 13)), (1, .int v1), (2, .int v2)] [] σ (T_X3_quiet_j9   v1 v2 σ) := by
  unfold T_X3_quiet_j9
  refine r_bipush (pc := 9) X dX3_quiet_9 kb_m4 ?_
  refine r_goto (pc := 11) (tgt := 39) X dX3_quiet_11 (by decide) ?_
  exact s_X3_quiet_j39 X Z hy v1 v2 ((-4)) σ

set_option maxRecDepth 100000 in
theorem m_X3_quiet {y : LY} {l : Launch}  {a0 : Int32} {a1 : Int32} {σ : ST} {a : (Int32 × ST)} (h : T_X3_quiet a0 a1 σ = some a) : MU y l yX3_quiet cX3_quiet 5 (some .int) (rmd 10) [.ref (ad y 13), .int a0, .int a1] σ (xI a) := by
  refine MU.of (φ := xI) h (by decide +kernel) rfl (fun E X Z hy => ?_)
  have X : CX y l E cX3_quiet 5 RX3 (rmd 10) := X
  show WW y l E 5 _ 0 [(0, .ref (ad y 13)), (1, .int a0), (2, .int a1)] [] σ (T_X3_quiet a0 a1 σ)
  unfold T_X3_quiet
  refine r_iload_n (pc := 0) X dX3_quiet_0 2 rfl rfl ?_
  refine r_iconst (pc := 1) X dX3_quiet_1 kc_m1 ?_
  refine r_icmp_lt (pc := 2) (tgt := 9) X dX3_quiet_2 (by decide) ?_ ?_
  · exact s_X3_quiet_j9 X Z hy a0 a1 σ
  · refine r_iload_n (pc := 5) X dX3_quiet_5 1 rfl rfl ?_
    refine r_if_ge (pc := 6) (tgt := 14) X dX3_quiet_6 (by decide) ?_ ?_
    · refine r_iload_n (pc := 14) X dX3_quiet_14 1 rfl rfl ?_
      refine r_bipush (pc := 15) X dX3_quiet_15 kb_60 ?_
      refine r_icmp_le (pc := 17) (tgt := 25) X dX3_quiet_17 (by decide) ?_ ?_
      · refine r_aload_n (pc := 25) X dX3_quiet_25 0 rfl rfl ?_
        refine r_geti (pc := 26) X dX3_quiet_26 fl_X3_88 oc_13 rfl (fun x1 => ?_)
        refine r_iconst (pc := 29) X dX3_quiet_29 kc_4 ?_
        refine r_icmp_le (pc := 30) (tgt := 38) X dX3_quiet_30 (by decide) ?_ ?_
        · refine r_iconst (pc := 38) X dX3_quiet_38 kc_0 ?_
          exact s_X3_quiet_j39 X Z hy a0 a1 0 σ
        · refine r_bipush (pc := 33) X dX3_quiet_33 kb_m3 ?_
          refine r_goto (pc := 35) (tgt := 39) X dX3_quiet_35 (by decide) ?_
          exact s_X3_quiet_j39 X Z hy a0 a1 ((-3)) σ
      · refine r_bipush (pc := 20) X dX3_quiet_20 kb_m6 ?_
        refine r_goto (pc := 22) (tgt := 39) X dX3_quiet_22 (by decide) ?_
        exact s_X3_quiet_j39 X Z hy a0 a1 ((-6)) σ
    · exact s_X3_quiet_j9 X Z hy a0 a1 σ

set_option maxRecDepth 100000 in
theorem m_X3_plainPull {y : LY} {l : Launch}  {a0 : Int32} {σ : ST} {a : Int32} (h : T_X3_plainPull σ a0 = some a) : MU y l yX3_plainPull cX3_plainPull 2 (some .int) (rmd 0) [.ref (ad y 13), .int a0] σ (xp σ a) := by
  refine MU.of (φ := xp σ) h (by decide +kernel) rfl (fun E X Z hy => ?_)
  have X : CX y l E cX3_plainPull 2 RX3 (rmd 0) := X
  show WW y l E 2 _ 0 [(0, .ref (ad y 13)), (1, .int a0)] [] σ (T_X3_plainPull σ a0)
  unfold T_X3_plainPull
  refine r_aload_n (pc := 0) X dX3_plainPull_0 0 rfl rfl ?_
  refine r_geta (pc := 1) X dX3_plainPull_1 fl_X3_13 oc_13 (by decide) ?_
  refine r_iload_n (pc := 4) X dX3_plainPull_4 1 rfl rfl ?_
  refine r_iald (pc := 5) X dX3_plainPull_5 ar_13_1 (fun x1 => ?_)
  refine r_iconst (pc := 6) X dX3_plainPull_6 kc_2 ?_
  refine r_icmp_ne (pc := 7) (tgt := 21) X dX3_plainPull_7 (by decide) ?_ ?_
  · refine r_aload_n (pc := 21) X dX3_plainPull_21 0 rfl rfl ?_
    refine r_geta (pc := 22) X dX3_plainPull_22 fl_X3_13 oc_13 (by decide) ?_
    refine r_iload_n (pc := 25) X dX3_plainPull_25 1 rfl rfl ?_
    refine r_iald (pc := 26) X dX3_plainPull_26 ar_13_1 (fun x2 => ?_)
    refine r_iconst (pc := 27) X dX3_plainPull_27 kc_3 ?_
    refine r_icmp_ne (pc := 28) (tgt := 42) X dX3_plainPull_28 (by decide) ?_ ?_
    · refine r_aload_n (pc := 42) X dX3_plainPull_42 0 rfl rfl ?_
      refine r_geta (pc := 43) X dX3_plainPull_43 fl_X3_13 oc_13 (by decide) ?_
      refine r_iload_n (pc := 46) X dX3_plainPull_46 1 rfl rfl ?_
      refine r_iald (pc := 47) X dX3_plainPull_47 ar_13_1 (fun x3 => ?_)
      refine r_iconst (pc := 48) X dX3_plainPull_48 kc_5 ?_
      refine r_icmp_ne (pc := 49) (tgt := 63) X dX3_plainPull_49 (by decide) ?_ ?_
      · refine r_aload_n (pc := 63) X dX3_plainPull_63 0 rfl rfl ?_
        refine r_geta (pc := 64) X dX3_plainPull_64 fl_X3_16 oc_13 (by decide) ?_
        refine r_iload_n (pc := 67) X dX3_plainPull_67 1 rfl rfl ?_
        refine r_iald (pc := 68) X dX3_plainPull_68 ar_13_2 (fun x4 => ?_)
        exact r_iret (pc := 69) X Z dX3_plainPull_69 rfl
      · refine r_iconst (pc := 52) X dX3_plainPull_52 kc_2 ?_
        refine r_aload_n (pc := 53) X dX3_plainPull_53 0 rfl rfl ?_
        refine r_geta (pc := 54) X dX3_plainPull_54 fl_X3_16 oc_13 (by decide) ?_
        refine r_iload_n (pc := 57) X dX3_plainPull_57 1 rfl rfl ?_
        refine r_iald (pc := 58) X dX3_plainPull_58 ar_13_2 (fun x5 => ?_)
        refine r_imul (pc := 59) X dX3_plainPull_59 ?_
        refine r_goto (pc := 60) (tgt := 69) X dX3_plainPull_60 (by decide) ?_
        exact r_iret (pc := 69) X Z dX3_plainPull_69 rfl
    · refine r_aload_n (pc := 31) X dX3_plainPull_31 0 rfl rfl ?_
      refine r_geta (pc := 32) X dX3_plainPull_32 fl_X3_16 oc_13 (by decide) ?_
      refine r_iload_n (pc := 35) X dX3_plainPull_35 1 rfl rfl ?_
      refine r_iald (pc := 36) X dX3_plainPull_36 ar_13_2 (fun x6 => ?_)
      refine r_iconst (pc := 37) X dX3_plainPull_37 kc_2 ?_
      refine r_idiv (pc := 38) X dX3_plainPull_38 (by decide) ?_
      refine r_goto (pc := 39) (tgt := 69) X dX3_plainPull_39 (by decide) ?_
      exact r_iret (pc := 69) X Z dX3_plainPull_69 rfl
  · refine r_aload_n (pc := 10) X dX3_plainPull_10 0 rfl rfl ?_
    refine r_geta (pc := 11) X dX3_plainPull_11 fl_X3_16 oc_13 (by decide) ?_
    refine r_iload_n (pc := 14) X dX3_plainPull_14 1 rfl rfl ?_
    refine r_iald (pc := 15) X dX3_plainPull_15 ar_13_2 (fun x7 => ?_)
    refine r_iconst (pc := 16) X dX3_plainPull_16 kc_4 ?_
    refine r_iadd (pc := 17) X dX3_plainPull_17 ?_
    refine r_goto (pc := 18) (tgt := 69) X dX3_plainPull_18 (by decide) ?_
    exact r_iret (pc := 69) X Z dX3_plainPull_69 rfl

set_option maxRecDepth 100000 in
theorem s_X3_nextAsked_L5 {y : LY} {l : Launch} {E : ET} (X : CX y l E cX3_nextAsked 4 RX3 (rmd 1)) (Z : ZX E (some .int)) (hy : y.1 ≤ (eS E).heap.size)  {σ : ST}   (n : Nat) : ∀ (v1 : Int32) (v2 : Int32) (v3 : Int32), WW y l E 4 (fun a => QM y E (xp σ a)) 5 [(0, .ref (ad y 13)), (1, .int v1), (2, .int v2), (3, .int v3)] [] σ (T_X3_nextAsked_L5 σ n v1 v2 v3) := by
  induction n with
  | zero => intros; exact r_none rfl
  | succ n ih =>
    intro v1 v2 v3
    unfold T_X3_nextAsked_L5
    refine r_iload_n (pc := 5) X dX3_nextAsked_5 3 rfl rfl ?_
    refine r_aload_n (pc := 6) X dX3_nextAsked_6 0 rfl rfl ?_
    refine r_geti (pc := 7) X dX3_nextAsked_7 fl_X3_83 oc_13 rfl (fun x1 => ?_)
    refine r_icmp_ge (pc := 10) (tgt := 51) X dX3_nextAsked_10 (by decide) ?_ ?_
    · refine r_iload_n (pc := 51) X dX3_nextAsked_51 2 rfl rfl ?_
      exact r_iret (pc := 52) X Z dX3_nextAsked_52 rfl
    · refine r_aload_n (pc := 13) X dX3_nextAsked_13 0 rfl rfl ?_
      refine r_geta (pc := 14) X dX3_nextAsked_14 fl_X3_68 oc_13 (by decide) ?_
      refine r_iload_n (pc := 17) X dX3_nextAsked_17 1 rfl rfl ?_
      refine r_iald (pc := 18) X dX3_nextAsked_18 ar_13_32 (fun x2 => ?_)
      refine r_iload_n (pc := 19) X dX3_nextAsked_19 3 rfl rfl ?_
      refine r_ishr (pc := 20) X dX3_nextAsked_20 rfl ?_
      refine r_iconst (pc := 21) X dX3_nextAsked_21 kc_1 ?_
      refine r_iand (pc := 22) X dX3_nextAsked_22 ?_
      refine r_if_ne (pc := 23) (tgt := 45) X dX3_nextAsked_23 (by decide) ?_ ?_
      · refine r_iinc (pc := 45) (lv' := [(0, .ref _), (1, .int _), (2, .int _)]) X dX3_nextAsked_45 3 rfl (congrArg (fun z => v3 + z) kc_1) (by decide) rfl (fun x3 => ?_)
        refine r_goto (pc := 48) (tgt := 5) X dX3_nextAsked_48 (by decide) ?_
        refine r_sub [1, 2, 3, 0] rfl ?_
        exact ih v1 v2 x3
      · refine r_iload_n (pc := 26) X dX3_nextAsked_26 2 rfl rfl ?_
        refine r_if_lt (pc := 27) (tgt := 43) X dX3_nextAsked_27 (by decide) ?_ ?_
        · refine r_iload_n (pc := 43) X dX3_nextAsked_43 3 rfl rfl ?_
          refine r_istore_n (pc := 44) (lv' := [(2, .int _), (0, .ref _), (1, .int _), (3, .int _)]) X dX3_nextAsked_44 rfl (by decide) rfl ?_
          refine r_iinc (pc := 45) (lv' := [(2, .int _), (0, .ref _), (1, .int _)]) X dX3_nextAsked_45 3 rfl (congrArg (fun z => v3 + z) kc_1) (by decide) rfl (fun x4 => ?_)
          refine r_goto (pc := 48) (tgt := 5) X dX3_nextAsked_48 (by decide) ?_
          refine r_sub [2, 3, 1, 0] rfl ?_
          exact ih v1 v3 x4
        · refine r_aload_n (pc := 30) X dX3_nextAsked_30 0 rfl rfl ?_
          refine r_iload_n (pc := 31) X dX3_nextAsked_31 3 rfl rfl ?_
          refine r_callvp (pc := 32) X dX3_nextAsked_32 cf_X3_plainPull ml_X3_299 (rf rfl rfl) hy oc_13.1 hc_3 (fun b hb => m_X3_plainPull hb) rfl rfl (Nat.le_of_ble_eq_true rfl) (fun x5 => ?_)
          refine r_aload_n (pc := 35) X dX3_nextAsked_35 0 rfl rfl ?_
          refine r_iload_n (pc := 36) X dX3_nextAsked_36 2 rfl rfl ?_
          refine r_callvp (pc := 37) X dX3_nextAsked_37 cf_X3_plainPull ml_X3_299 (rf rfl rfl) hy oc_13.1 hc_3 (fun b hb => m_X3_plainPull hb) rfl rfl (Nat.le_of_ble_eq_true rfl) (fun x7 => ?_)
          refine r_icmp_ge (pc := 40) (tgt := 45) X dX3_nextAsked_40 (by decide) ?_ ?_
          · refine r_iinc (pc := 45) (lv' := [(0, .ref _), (1, .int _), (2, .int _)]) X dX3_nextAsked_45 3 rfl (congrArg (fun z => v3 + z) kc_1) (by decide) rfl (fun x9 => ?_)
            refine r_goto (pc := 48) (tgt := 5) X dX3_nextAsked_48 (by decide) ?_
            refine r_sub [1, 2, 3, 0] rfl ?_
            exact ih v1 v2 x9
          · refine r_iload_n (pc := 43) X dX3_nextAsked_43 3 rfl rfl ?_
            refine r_istore_n (pc := 44) (lv' := [(2, .int _), (0, .ref _), (1, .int _), (3, .int _)]) X dX3_nextAsked_44 rfl (by decide) rfl ?_
            refine r_iinc (pc := 45) (lv' := [(2, .int _), (0, .ref _), (1, .int _)]) X dX3_nextAsked_45 3 rfl (congrArg (fun z => v3 + z) kc_1) (by decide) rfl (fun x10 => ?_)
            refine r_goto (pc := 48) (tgt := 5) X dX3_nextAsked_48 (by decide) ?_
            refine r_sub [2, 3, 1, 0] rfl ?_
            exact ih v1 v3 x10

set_option maxRecDepth 100000 in
theorem m_X3_nextAsked {y : LY} {l : Launch}  {a0 : Int32} {σ : ST} {a : Int32} (h : T_X3_nextAsked σ a0 = some a) : MU y l yX3_nextAsked cX3_nextAsked 4 (some .int) (rmd 1) [.ref (ad y 13), .int a0] σ (xp σ a) := by
  refine MU.of (φ := xp σ) h (by decide +kernel) rfl (fun E X Z hy => ?_)
  have X : CX y l E cX3_nextAsked 4 RX3 (rmd 1) := X
  show WW y l E 4 _ 0 [(0, .ref (ad y 13)), (1, .int a0)] [] σ (T_X3_nextAsked σ a0)
  unfold T_X3_nextAsked
  refine r_bipush (pc := 0) X dX3_nextAsked_0 kb_m9 ?_
  refine r_istore_n (pc := 2) (lv' := [(2, .int _), (0, .ref _), (1, .int _)]) X dX3_nextAsked_2 rfl (by decide) rfl ?_
  refine r_iconst (pc := 3) X dX3_nextAsked_3 kc_0 ?_
  refine r_istore_n (pc := 4) (lv' := [(3, .int _), (2, .int _), (0, .ref _), (1, .int _)]) X dX3_nextAsked_4 rfl (by decide) rfl ?_
  refine r_sub [2, 3, 1, 0] rfl ?_
  exact s_X3_nextAsked_L5 X Z hy FU a0 ((-9)) 0

set_option maxRecDepth 100000 in
theorem m_X3_isRather {y : LY} {l : Launch}  {a0 : Int32} {a1 : Int32} {σ : ST} {a : Int32} (h : T_X3_isRather σ a0 a1 = some a) : MU y l yX3_isRather cX3_isRather 3 (some .boolean) (rmd 0) [.ref (ad y 13), .int a0, .int a1] σ (xp σ a) := by
  refine MU.of (φ := xp σ) h (by decide +kernel) rfl (fun E X Z hy => ?_)
  have X : CX y l E cX3_isRather 3 RX3 (rmd 0) := X
  show WW y l E 3 _ 0 [(0, .ref (ad y 13)), (1, .int a0), (2, .int a1)] [] σ (T_X3_isRather σ a0 a1)
  unfold T_X3_isRather
  refine r_iload_n (pc := 0) X dX3_isRather_0 2 rfl rfl ?_
  refine r_bipush (pc := 1) X dX3_isRather_1 kb_9 ?_
  refine r_icmp_eq (pc := 3) (tgt := 41) X dX3_isRather_3 (by decide) ?_ ?_
  · refine r_iconst (pc := 41) X dX3_isRather_41 kc_1 ?_
    refine r_goto (pc := 42) (tgt := 46) X dX3_isRather_42 (by decide) ?_
    exact r_zret (pc := 46) X Z dX3_isRather_46 rfl (Or.inr rfl)
  · refine r_aload_n (pc := 6) X dX3_isRather_6 0 rfl rfl ?_
    refine r_geta (pc := 7) X dX3_isRather_7 fl_X3_28 oc_13 (by decide) ?_
    refine r_iload_n (pc := 10) X dX3_isRather_10 1 rfl rfl ?_
    refine r_iald (pc := 11) X dX3_isRather_11 ar_13_6 (fun x1 => ?_)
    refine r_aload_n (pc := 12) X dX3_isRather_12 0 rfl rfl ?_
    refine r_geta (pc := 13) X dX3_isRather_13 fl_X3_28 oc_13 (by decide) ?_
    refine r_iload_n (pc := 16) X dX3_isRather_16 2 rfl rfl ?_
    refine r_iald (pc := 17) X dX3_isRather_17 ar_13_6 (fun x2 => ?_)
    refine r_icmp_lt (pc := 18) (tgt := 41) X dX3_isRather_18 (by decide) ?_ ?_
    · refine r_iconst (pc := 41) X dX3_isRather_41 kc_1 ?_
      refine r_goto (pc := 42) (tgt := 46) X dX3_isRather_42 (by decide) ?_
      exact r_zret (pc := 46) X Z dX3_isRather_46 rfl (Or.inr rfl)
    · refine r_aload_n (pc := 21) X dX3_isRather_21 0 rfl rfl ?_
      refine r_geta (pc := 22) X dX3_isRather_22 fl_X3_28 oc_13 (by decide) ?_
      refine r_iload_n (pc := 25) X dX3_isRather_25 1 rfl rfl ?_
      refine r_iald (pc := 26) X dX3_isRather_26 ar_13_6 (fun x3 => ?_)
      refine r_aload_n (pc := 27) X dX3_isRather_27 0 rfl rfl ?_
      refine r_geta (pc := 28) X dX3_isRather_28 fl_X3_28 oc_13 (by decide) ?_
      refine r_iload_n (pc := 31) X dX3_isRather_31 2 rfl rfl ?_
      refine r_iald (pc := 32) X dX3_isRather_32 ar_13_6 (fun x4 => ?_)
      refine r_icmp_ne (pc := 33) (tgt := 45) X dX3_isRather_33 (by decide) ?_ ?_
      · refine r_iconst (pc := 45) X dX3_isRather_45 kc_0 ?_
        exact r_zret (pc := 46) X Z dX3_isRather_46 rfl (Or.inl rfl)
      · refine r_iload_n (pc := 36) X dX3_isRather_36 1 rfl rfl ?_
        refine r_iload_n (pc := 37) X dX3_isRather_37 2 rfl rfl ?_
        refine r_icmp_ge (pc := 38) (tgt := 45) X dX3_isRather_38 (by decide) ?_ ?_
        · refine r_iconst (pc := 45) X dX3_isRather_45 kc_0 ?_
          exact r_zret (pc := 46) X Z dX3_isRather_46 rfl (Or.inl rfl)
        · refine r_iconst (pc := 41) X dX3_isRather_41 kc_1 ?_
          refine r_goto (pc := 42) (tgt := 46) X dX3_isRather_42 (by decide) ?_
          exact r_zret (pc := 46) X Z dX3_isRather_46 rfl (Or.inr rfl)

set_option maxRecDepth 100000 in
theorem s_X3_isKept_L2 {y : LY} {l : Launch} {E : ET} (X : CX y l E cX3_isKept 3 RX3 (rmd 0)) (Z : ZX E (some .boolean)) (hy : y.1 ≤ (eS E).heap.size)  {σ : ST}   (n : Nat) : ∀ (v1 : Int32) (v2 : Int32), WW y l E 3 (fun a => QM y E (xp σ a)) 2 [(0, .ref (ad y 13)), (1, .int v1), (2, .int v2)] [] σ (T_X3_isKept_L2 σ n v1 v2) := by
  induction n with
  | zero => intros; exact r_none rfl
  | succ n ih =>
    intro v1 v2
    unfold T_X3_isKept_L2
    refine r_iload_n (pc := 2) X dX3_isKept_2 2 rfl rfl ?_
    refine r_aload_n (pc := 3) X dX3_isKept_3 0 rfl rfl ?_
    refine r_geti (pc := 4) X dX3_isKept_4 fl_X3_83 oc_13 rfl (fun x1 => ?_)
    refine r_icmp_ge (pc := 7) (tgt := 28) X dX3_isKept_7 (by decide) ?_ ?_
    · refine r_iconst (pc := 28) X dX3_isKept_28 kc_0 ?_
      exact r_zret (pc := 29) X Z dX3_isKept_29 rfl (Or.inl rfl)
    · refine r_aload_n (pc := 10) X dX3_isKept_10 0 rfl rfl ?_
      refine r_geta (pc := 11) X dX3_isKept_11 fl_X3_71 oc_13 (by decide) ?_
      refine r_iload_n (pc := 14) X dX3_isKept_14 2 rfl rfl ?_
      refine r_iald (pc := 15) X dX3_isKept_15 ar_13_33 (fun x2 => ?_)
      refine r_iload_n (pc := 16) X dX3_isKept_16 1 rfl rfl ?_
      refine r_icmp_ne (pc := 17) (tgt := 22) X dX3_isKept_17 (by decide) ?_ ?_
      · refine r_iinc (pc := 22) (lv' := [(0, .ref _), (1, .int _)]) X dX3_isKept_22 2 rfl (congrArg (fun z => v2 + z) kc_1) (by decide) rfl (fun x3 => ?_)
        refine r_goto (pc := 25) (tgt := 2) X dX3_isKept_25 (by decide) ?_
        refine r_sub [1, 2, 0] rfl ?_
        exact ih v1 x3
      · refine r_iconst (pc := 20) X dX3_isKept_20 kc_1 ?_
        exact r_zret (pc := 21) X Z dX3_isKept_21 rfl (Or.inr rfl)

set_option maxRecDepth 100000 in
theorem m_X3_isKept {y : LY} {l : Launch}  {a0 : Int32} {σ : ST} {a : Int32} (h : T_X3_isKept σ a0 = some a) : MU y l yX3_isKept cX3_isKept 3 (some .boolean) (rmd 0) [.ref (ad y 13), .int a0] σ (xp σ a) := by
  refine MU.of (φ := xp σ) h (by decide +kernel) rfl (fun E X Z hy => ?_)
  have X : CX y l E cX3_isKept 3 RX3 (rmd 0) := X
  show WW y l E 3 _ 0 [(0, .ref (ad y 13)), (1, .int a0)] [] σ (T_X3_isKept σ a0)
  unfold T_X3_isKept
  refine r_iconst (pc := 0) X dX3_isKept_0 kc_0 ?_
  refine r_istore_n (pc := 1) (lv' := [(2, .int _), (0, .ref _), (1, .int _)]) X dX3_isKept_1 rfl (by decide) rfl ?_
  refine r_sub [1, 2, 0] rfl ?_
  exact s_X3_isKept_L2 X Z hy FU a0 0

set_option maxRecDepth 100000 in
theorem s_X3_asks_j18 {y : LY} {l : Launch} {E : ET} (X : CX y l E cX3_asks 3 RX3 (rmd 2)) (Z : ZX E (some .boolean)) (hy : y.1 ≤ (eS E).heap.size)     (v1 : Int32) (s0 : Int32) (σ : ST) : WW y l E 3 (fun a => QM y E (xI a)) 18 [(0, .ref (ad y 13)), (1, .int v1)] [.int s0] σ (T_X3_asks_j18   v1 s0 σ) := by
  unfold T_X3_asks_j18
  refine r_istore_n (pc := 18) (lv' := [(2, .int _), (0, .ref _), (1, .int _)]) X dX3_asks_18 rfl (by decide) rfl ?_
  refine r_iload_n (pc := 19) X dX3_asks_19 0 rfl rfl ?_
  refine r_if_ge (pc := 20) (tgt := 25) X dX3_asks_20 (by decide) ?_ ?_
  · refine r_aload_n (pc := 25) X dX3_asks_25 1 rfl rfl ?_
    refine r_geta (pc := 26) X dX3_asks_26 fl_X3_68 oc_13 (by decide) ?_
    refine r_iload_n (pc := 29) X dX3_asks_29 2 rfl rfl ?_
    refine r_dup2 (pc := 30) X dX3_asks_30 rfl rfl ?_
    refine r_iald (pc := 31) X dX3_asks_31 ar_13_32 (fun x1 => ?_)
    refine r_iconst (pc := 32) X dX3_asks_32 kc_1 ?_
    refine r_iload_n (pc := 33) X dX3_asks_33 0 rfl rfl ?_
    refine r_ishl (pc := 34) X dX3_asks_34 rfl ?_
    refine r_ior (pc := 35) X dX3_asks_35 ?_
    refine r_iast (pc := 36) X dX3_asks_36 ar_13_32 (fun σ2 => ?_)
    refine r_aload_n (pc := 37) X dX3_asks_37 1 rfl rfl ?_
    refine r_iload_n (pc := 38) X dX3_asks_38 2 rfl rfl ?_
    refine r_aload_n (pc := 39) X dX3_asks_39 1 rfl rfl ?_
    refine r_geta (pc := 40) X dX3_asks_40 fl_X3_71 oc_13 (by decide) ?_
    refine r_iload_n (pc := 43) X dX3_asks_43 0 rfl rfl ?_
    refine r_iald (pc := 44) X dX3_asks_44 ar_13_33 (fun x3 => ?_)
    refine r_callvp (pc := 45) X dX3_asks_45 cf_X3_isRather ml_X3_308 (rf rfl rfl) hy oc_13.1 hc_3 (fun b hb => m_X3_isRather hb) rfl rfl (Nat.le_of_ble_eq_true rfl) (fun x4 => ?_)
    refine r_if_eq (pc := 48) (tgt := 58) X dX3_asks_48 (by decide) ?_ ?_
    · refine r_iconst (pc := 58) X dX3_asks_58 kc_1 ?_
      exact r_zret (pc := 59) X Z dX3_asks_59 rfl (Or.inr rfl)
    · refine r_aload_n (pc := 51) X dX3_asks_51 1 rfl rfl ?_
      refine r_geta (pc := 52) X dX3_asks_52 fl_X3_71 oc_13 (by decide) ?_
      refine r_iload_n (pc := 55) X dX3_asks_55 0 rfl rfl ?_
      refine r_iload_n (pc := 56) X dX3_asks_56 2 rfl rfl ?_
      refine r_iast (pc := 57) X dX3_asks_57 ar_13_33 (fun σ6 => ?_)
      refine r_iconst (pc := 58) X dX3_asks_58 kc_1 ?_
      exact r_zret (pc := 59) X Z dX3_asks_59 rfl (Or.inr rfl)
  · refine r_iconst (pc := 23) X dX3_asks_23 kc_0 ?_
    exact r_zret (pc := 24) X Z dX3_asks_24 rfl (Or.inl rfl)

set_option maxRecDepth 100000 in
theorem m_X3_asks {y : LY} {l : Launch}  {a0 : Int32} {σ : ST} {a : (Int32 × ST)} (h : T_X3_asks a0 σ = some a) : MU y l yX3_asks cX3_asks 3 (some .boolean) (rmd 2) [.ref (ad y 13), .int a0] σ (xI a) := by
  refine MU.of (φ := xI) h (by decide +kernel) rfl (fun E X Z hy => ?_)
  have X : CX y l E cX3_asks 3 RX3 (rmd 2) := X
  show WW y l E 3 _ 0 [(0, .ref (ad y 13)), (1, .int a0)] [] σ (T_X3_asks a0 σ)
  unfold T_X3_asks
  refine r_aload_n (pc := 0) X dX3_asks_0 0 rfl rfl ?_
  refine r_iload_n (pc := 1) X dX3_asks_1 1 rfl rfl ?_
  refine r_callvp (pc := 2) X dX3_asks_2 cf_X3_isKept ml_X3_302 (rf rfl rfl) hy oc_13.1 hc_3 (fun b hb => m_X3_isKept hb) rfl rfl (Nat.le_of_ble_eq_true rfl) (fun x1 => ?_)
  refine r_if_eq (pc := 5) (tgt := 13) X dX3_asks_5 (by decide) ?_ ?_
  · refine r_aload_n (pc := 13) X dX3_asks_13 0 rfl rfl ?_
    refine r_iload_n (pc := 14) X dX3_asks_14 1 rfl rfl ?_
    refine r_callvp (pc := 15) X dX3_asks_15 cf_X3_nextAsked ml_X3_305 (rf rfl rfl) hy oc_13.1 hc_3 (fun b hb => m_X3_nextAsked hb) rfl rfl (Nat.le_of_ble_eq_true rfl) (fun x3 => ?_)
    exact s_X3_asks_j18 X Z hy a0 x3 σ
  · refine r_bipush (pc := 8) X dX3_asks_8 kb_m9 ?_
    refine r_goto (pc := 10) (tgt := 18) X dX3_asks_10 (by decide) ?_
    exact s_X3_asks_j18 X Z hy a0 ((-9)) σ

set_option maxRecDepth 100000 in
theorem s_X3_stable_L66 {y : LY} {l : Launch} {E : ET} (X : CX y l E cX3_stable 4 RX3 (rmd 3)) (Z : ZX E (some .int)) (hy : y.1 ≤ (eS E).heap.size)   {K58 : Int32 → Int32 → ST → Option (Int32 × ST)} (hK58 : ∀ (v1 : Int32) (v2 : Int32) (σ : ST), WW y l E 4 (fun a => QM y E (xI a)) 58 [(0, .ref (ad y 13)), (1, .int v1), (2, .int v2)] [] σ (K58 v1 v2 σ)) (n : Nat) : ∀ (v1 : Int32) (v2 : Int32) (v3 : Int32) (σ : ST), WW y l E 4 (fun a => QM y E (xI a)) 66 [(0, .ref (ad y 13)), (1, .int v1), (2, .int v2), (3, .int v3)] [] σ (T_X3_stable_L66 K58 n v1 v2 v3 σ) := by
  induction n with
  | zero => intros; exact r_none rfl
  | succ n ih =>
    intro v1 v2 v3 σ
    unfold T_X3_stable_L66
    refine r_iload_n (pc := 66) X dX3_stable_66 3 rfl rfl ?_
    refine r_aload_n (pc := 67) X dX3_stable_67 0 rfl rfl ?_
    refine r_geti (pc := 68) X dX3_stable_68 fl_X3_88 oc_13 rfl (fun x1 => ?_)
    refine r_icmp_ge (pc := 71) (tgt := 88) X dX3_stable_71 (by decide) ?_ ?_
    · refine r_goto (pc := 88) (tgt := 58) X dX3_stable_88 (by decide) ?_
      refine r_sub [0, 1, 2] rfl ?_
      exact hK58 v1 v2 σ
    · refine r_iload_n (pc := 74) X dX3_stable_74 2 rfl rfl ?_
      refine r_aload_n (pc := 75) X dX3_stable_75 0 rfl rfl ?_
      refine r_iload_n (pc := 76) X dX3_stable_76 3 rfl rfl ?_
      refine r_callvI (pc := 77) X dX3_stable_77 cf_X3_asks ml_X3_311 (rf rfl rfl) hy oc_13.1 hc_3 (fun b hb => m_X3_asks hb) rfl rfl (Nat.le_of_ble_eq_true rfl) (fun x2 σ3 => ?_)
      refine r_ior (pc := 80) X dX3_stable_80 ?_
      refine r_vl (fun x4 => ?_)
      refine r_istore_n (pc := 81) (lv' := [(2, .int _), (0, .ref _), (1, .int _), (3, .int _)]) X dX3_stable_81 rfl (by decide) rfl ?_
      refine r_iinc (pc := 82) (lv' := [(2, .int _), (0, .ref _), (1, .int _)]) X dX3_stable_82 3 rfl (congrArg (fun z => v3 + z) kc_1) (by decide) rfl (fun x5 => ?_)
      refine r_goto (pc := 85) (tgt := 66) X dX3_stable_85 (by decide) ?_
      refine r_sub [2, 3, 1, 0] rfl ?_
      exact ih v1 x4 x5 σ3

set_option maxRecDepth 100000 in
theorem s_X3_stable_L93 {y : LY} {l : Launch} {E : ET} (X : CX y l E cX3_stable 4 RX3 (rmd 3)) (Z : ZX E (some .int)) (hy : y.1 ≤ (eS E).heap.size)     (n : Nat) : ∀ (v1 : Int32) (v3 : Int32) (σ : ST), WW y l E 4 (fun a => QM y E (xI a)) 93 [(0, .ref (ad y 13)), (1, .int v1), (3, .int v3)] [] σ (T_X3_stable_L93  n v1 v3 σ) := by
  induction n with
  | zero => intros; exact r_none rfl
  | succ n ih =>
    intro v1 v3 σ
    unfold T_X3_stable_L93
    refine r_iload_n (pc := 93) X dX3_stable_93 2 rfl rfl ?_
    refine r_aload_n (pc := 94) X dX3_stable_94 0 rfl rfl ?_
    refine r_geti (pc := 95) X dX3_stable_95 fl_X3_83 oc_13 rfl (fun x1 => ?_)
    refine r_icmp_ge (pc := 98) (tgt := 119) X dX3_stable_98 (by decide) ?_ ?_
    · refine r_bipush (pc := 119) X dX3_stable_119 kb_m9 ?_
      exact r_iret (pc := 121) X Z dX3_stable_121 rfl
    · refine r_aload_n (pc := 101) X dX3_stable_101 0 rfl rfl ?_
      refine r_geta (pc := 102) X dX3_stable_102 fl_X3_71 oc_13 (by decide) ?_
      refine r_iload_n (pc := 105) X dX3_stable_105 2 rfl rfl ?_
      refine r_iald (pc := 106) X dX3_stable_106 ar_13_33 (fun x2 => ?_)
      refine r_iload_n (pc := 107) X dX3_stable_107 1 rfl rfl ?_
      refine r_icmp_ne (pc := 108) (tgt := 113) X dX3_stable_108 (by decide) ?_ ?_
      · refine r_iinc (pc := 113) (lv' := [(0, .ref _), (1, .int _)]) X dX3_stable_113 2 rfl (congrArg (fun z => v3 + z) kc_1) (by decide) rfl (fun x3 => ?_)
        refine r_goto (pc := 116) (tgt := 93) X dX3_stable_116 (by decide) ?_
        refine r_sub [1, 2, 0] rfl ?_
        exact ih v1 x3 σ
      · refine r_iload_n (pc := 111) X dX3_stable_111 2 rfl rfl ?_
        exact r_iret (pc := 112) X Z dX3_stable_112 rfl

set_option maxRecDepth 100000 in
theorem s_X3_stable_L58 {y : LY} {l : Launch} {E : ET} (X : CX y l E cX3_stable 4 RX3 (rmd 3)) (Z : ZX E (some .int)) (hy : y.1 ≤ (eS E).heap.size)     (n : Nat) : ∀ (v1 : Int32) (v2 : Int32) (σ : ST), WW y l E 4 (fun a => QM y E (xI a)) 58 [(0, .ref (ad y 13)), (1, .int v1), (2, .int v2)] [] σ (T_X3_stable_L58  n v1 v2 σ) := by
  induction n with
  | zero => intros; exact r_none rfl
  | succ n ih =>
    intro v1 v2 σ
    unfold T_X3_stable_L58
    refine r_iload_n (pc := 58) X dX3_stable_58 2 rfl rfl ?_
    refine r_if_eq (pc := 59) (tgt := 91) X dX3_stable_59 (by decide) ?_ ?_
    · refine r_iconst (pc := 91) X dX3_stable_91 kc_0 ?_
      refine r_istore_n (pc := 92) (lv' := [(3, .int _), (0, .ref _), (1, .int _), (2, .int _)]) X dX3_stable_92 rfl (by decide) rfl ?_
      refine r_sub [1, 2, 0] rfl ?_
      exact s_X3_stable_L93 X Z hy FU v1 0 σ
    · refine r_iconst (pc := 62) X dX3_stable_62 kc_0 ?_
      refine r_istore_n (pc := 63) (lv' := [(2, .int _), (0, .ref _), (1, .int _)]) X dX3_stable_63 rfl (by decide) rfl ?_
      refine r_iconst (pc := 64) X dX3_stable_64 kc_0 ?_
      refine r_istore_n (pc := 65) (lv' := [(3, .int _), (2, .int _), (0, .ref _), (1, .int _)]) X dX3_stable_65 rfl (by decide) rfl ?_
      refine r_sub [2, 3, 1, 0] rfl ?_
      exact s_X3_stable_L66 X Z hy (fun v1 v2 s => ih v1 v2 s) FU v1 0 0 σ

set_option maxRecDepth 100000 in
theorem s_X3_stable_L36 {y : LY} {l : Launch} {E : ET} (X : CX y l E cX3_stable 4 RX3 (rmd 3)) (Z : ZX E (some .int)) (hy : y.1 ≤ (eS E).heap.size)     (n : Nat) : ∀ (v1 : Int32) (v2 : Int32) (σ : ST), WW y l E 4 (fun a => QM y E (xI a)) 36 [(0, .ref (ad y 13)), (1, .int v1), (2, .int v2)] [] σ (T_X3_stable_L36  n v1 v2 σ) := by
  induction n with
  | zero => intros; exact r_none rfl
  | succ n ih =>
    intro v1 v2 σ
    unfold T_X3_stable_L36
    refine r_iload_n (pc := 36) X dX3_stable_36 2 rfl rfl ?_
    refine r_bipush (pc := 37) X dX3_stable_37 kb_6 ?_
    refine r_icmp_ge (pc := 39) (tgt := 56) X dX3_stable_39 (by decide) ?_ ?_
    · refine r_iconst (pc := 56) X dX3_stable_56 kc_1 ?_
      refine r_istore_n (pc := 57) (lv' := [(2, .int _), (0, .ref _), (1, .int _)]) X dX3_stable_57 rfl (by decide) rfl ?_
      refine r_sub [1, 2, 0] rfl ?_
      exact s_X3_stable_L58 X Z hy FU v1 1 σ
    · refine r_aload_n (pc := 42) X dX3_stable_42 0 rfl rfl ?_
      refine r_geta (pc := 43) X dX3_stable_43 fl_X3_71 oc_13 (by decide) ?_
      refine r_iload_n (pc := 46) X dX3_stable_46 2 rfl rfl ?_
      refine r_bipush (pc := 47) X dX3_stable_47 kb_9 ?_
      refine r_iast (pc := 49) X dX3_stable_49 ar_13_33 (fun σ1 => ?_)
      refine r_iinc (pc := 50) (lv' := [(0, .ref _), (1, .int _)]) X dX3_stable_50 2 rfl (congrArg (fun z => v2 + z) kc_1) (by decide) rfl (fun x2 => ?_)
      refine r_goto (pc := 53) (tgt := 36) X dX3_stable_53 (by decide) ?_
      refine r_sub [1, 2, 0] rfl ?_
      exact ih v1 x2 σ1

set_option maxRecDepth 100000 in
theorem s_X3_stable_L16 {y : LY} {l : Launch} {E : ET} (X : CX y l E cX3_stable 4 RX3 (rmd 3)) (Z : ZX E (some .int)) (hy : y.1 ≤ (eS E).heap.size)     (n : Nat) : ∀ (v1 : Int32) (v2 : Int32) (σ : ST), WW y l E 4 (fun a => QM y E (xI a)) 16 [(0, .ref (ad y 13)), (1, .int v1), (2, .int v2)] [] σ (T_X3_stable_L16  n v1 v2 σ) := by
  induction n with
  | zero => intros; exact r_none rfl
  | succ n ih =>
    intro v1 v2 σ
    unfold T_X3_stable_L16
    refine r_iload_n (pc := 16) X dX3_stable_16 2 rfl rfl ?_
    refine r_iconst (pc := 17) X dX3_stable_17 kc_5 ?_
    refine r_icmp_ge (pc := 18) (tgt := 34) X dX3_stable_18 (by decide) ?_ ?_
    · refine r_iconst (pc := 34) X dX3_stable_34 kc_0 ?_
      refine r_istore_n (pc := 35) (lv' := [(2, .int _), (0, .ref _), (1, .int _)]) X dX3_stable_35 rfl (by decide) rfl ?_
      refine r_sub [1, 2, 0] rfl ?_
      exact s_X3_stable_L36 X Z hy FU v1 0 σ
    · refine r_aload_n (pc := 21) X dX3_stable_21 0 rfl rfl ?_
      refine r_geta (pc := 22) X dX3_stable_22 fl_X3_68 oc_13 (by decide) ?_
      refine r_iload_n (pc := 25) X dX3_stable_25 2 rfl rfl ?_
      refine r_iconst (pc := 26) X dX3_stable_26 kc_0 ?_
      refine r_iast (pc := 27) X dX3_stable_27 ar_13_32 (fun σ1 => ?_)
      refine r_iinc (pc := 28) (lv' := [(0, .ref _), (1, .int _)]) X dX3_stable_28 2 rfl (congrArg (fun z => v2 + z) kc_1) (by decide) rfl (fun x2 => ?_)
      refine r_goto (pc := 31) (tgt := 16) X dX3_stable_31 (by decide) ?_
      refine r_sub [1, 2, 0] rfl ?_
      exact ih v1 x2 σ1

set_option maxRecDepth 100000 in
theorem m_X3_stable {y : LY} {l : Launch}  {a0 : Int32} {σ : ST} {a : (Int32 × ST)} (h : T_X3_stable a0 σ = some a) : MU y l yX3_stable cX3_stable 4 (some .int) (rmd 3) [.ref (ad y 13), .int a0] σ (xI a) := by
  refine MU.of (φ := xI) h (by decide +kernel) rfl (fun E X Z hy => ?_)
  have X : CX y l E cX3_stable 4 RX3 (rmd 3) := X
  show WW y l E 4 _ 0 [(0, .ref (ad y 13)), (1, .int a0)] [] σ (T_X3_stable a0 σ)
  unfold T_X3_stable
  refine r_aload_n (pc := 0) X dX3_stable_0 0 rfl rfl ?_
  refine r_iload_n (pc := 1) X dX3_stable_1 1 rfl rfl ?_
  refine r_callvp (pc := 2) X dX3_stable_2 cf_X3_isBearer ml_X3_91 (rf rfl rfl) hy oc_13.1 hc_3 (fun b hb => m_X3_isBearer hb) rfl rfl (Nat.le_of_ble_eq_true rfl) (fun x1 => ?_)
  refine r_if_ne (pc := 5) (tgt := 14) X dX3_stable_5 (by decide) ?_ ?_
  · refine r_iconst (pc := 14) X dX3_stable_14 kc_0 ?_
    refine r_istore_n (pc := 15) (lv' := [(2, .int _), (0, .ref _), (1, .int _)]) X dX3_stable_15 rfl (by decide) rfl ?_
    refine r_sub [1, 2, 0] rfl ?_
    exact s_X3_stable_L16 X Z hy FU a0 0 σ
  · refine r_aload_n (pc := 8) X dX3_stable_8 0 rfl rfl ?_
    refine r_iconst (pc := 9) X dX3_stable_9 kc_m1 ?_
    refine r_callvI (pc := 10) X dX3_stable_10 cf_X3_no ml_X3_102 (rf rfl rfl) hy oc_13.1 hc_3 (fun b hb => m_X3_no hb) rfl rfl (Nat.le_of_ble_eq_true rfl) (fun x3 σ4 => ?_)
    exact r_iret (pc := 13) X Z dX3_stable_13 rfl

set_option maxRecDepth 100000 in
theorem s_X3_walksSo_j40 {y : LY} {l : Launch} {E : ET} (X : CX y l E cX3_walksSo 4 RX3 (rmd 6)) (Z : ZX E (some .boolean)) (hy : y.1 ≤ (eS E).heap.size)   {K8 : Int32 → Int32 → Int32 → ST → Option (Int32 × ST)} (hK8 : ∀ (v1 : Int32) (v2 : Int32) (v3 : Int32) (σ : ST), WW y l E 4 (fun a => QM y E (xI a)) 8 [(0, .ref (ad y 13)), (1, .int v1), (2, .int v2), (3, .int v3)] [] σ (K8 v1 v2 v3 σ)) (v1 : Int32) (v3 : Int32) (s0 : Int32) (σ : ST) : WW y l E 4 (fun a => QM y E (xI a)) 40 [(0, .ref (ad y 13)), (1, .int v1), (3, .int v3)] [.int s0] σ (T_X3_walksSo_j40 K8  v1 v3 s0 σ) := by
  unfold T_X3_walksSo_j40
  refine r_istore_n (pc := 40) (lv' := [(2, .int _), (0, .ref _), (1, .int _), (3, .int _)]) X dX3_walksSo_40 rfl (by decide) rfl ?_
  refine r_aload_n (pc := 41) X dX3_walksSo_41 1 rfl rfl ?_
  refine r_iconst (pc := 42) X dX3_walksSo_42 kc_0 ?_
  refine r_callvV (pc := 43) X dX3_walksSo_43 cf_X3_goesHour ml_X3_130 (rf rfl rfl) hy oc_13.1 hc_3 (fun b hb => m_X3_goesHour hb) rfl rfl (Nat.le_of_ble_eq_true rfl) (fun σ2 => ?_)
  refine r_iinc (pc := 46) (lv' := [(2, .int _), (0, .ref _), (1, .int _)]) X dX3_walksSo_46 3 rfl (congrArg (fun z => v3 + z) kc_1) (by decide) rfl (fun x3 => ?_)
  refine r_goto (pc := 49) (tgt := 8) X dX3_walksSo_49 (by decide) ?_
  refine r_sub [2, 3, 1, 0] rfl ?_
  exact hK8 v1 s0 x3 σ2

set_option maxRecDepth 100000 in
theorem s_X3_walksSo_j52 {y : LY} {l : Launch} {E : ET} (X : CX y l E cX3_walksSo 4 RX3 (rmd 6)) (Z : ZX E (some .boolean)) (hy : y.1 ≤ (eS E).heap.size)     (v2 : Int32) (σ : ST) : WW y l E 4 (fun a => QM y E (xI a)) 52 [(0, .ref (ad y 13)), (2, .int v2)] [] σ (T_X3_walksSo_j52   v2 σ) := by
  unfold T_X3_walksSo_j52
  refine r_aload_n (pc := 52) X dX3_walksSo_52 0 rfl rfl ?_
  refine r_callvV (pc := 53) X dX3_walksSo_53 cf_X3_forgets ml_X3_241 (rf rfl rfl) hy oc_13.1 hc_3 (fun b hb => m_X3_forgets hb) rfl rfl (Nat.le_of_ble_eq_true rfl) (fun σ2 => ?_)
  refine r_iload_n (pc := 56) X dX3_walksSo_56 1 rfl rfl ?_
  exact r_zretz (pc := 57) X Z dX3_walksSo_57 rfl

set_option maxRecDepth 100000 in
theorem s_X3_walksSo_L8 {y : LY} {l : Launch} {E : ET} (X : CX y l E cX3_walksSo 4 RX3 (rmd 6)) (Z : ZX E (some .boolean)) (hy : y.1 ≤ (eS E).heap.size)     (n : Nat) : ∀ (v1 : Int32) (v2 : Int32) (v3 : Int32) (σ : ST), WW y l E 4 (fun a => QM y E (xI a)) 8 [(0, .ref (ad y 13)), (1, .int v1), (2, .int v2), (3, .int v3)] [] σ (T_X3_walksSo_L8  n v1 v2 v3 σ) := by
  induction n with
  | zero => intros; exact r_none rfl
  | succ n ih =>
    intro v1 v2 v3 σ
    unfold T_X3_walksSo_L8
    refine r_iload_n (pc := 8) X dX3_walksSo_8 3 rfl rfl ?_
    refine r_aload_n (pc := 9) X dX3_walksSo_9 0 rfl rfl ?_
    refine r_geti (pc := 10) X dX3_walksSo_10 fl_X3_314 oc_13 rfl (fun x1 => ?_)
    refine r_icmp_ge (pc := 13) (tgt := 52) X dX3_walksSo_13 (by decide) ?_ ?_
    · refine r_sub [0, 2] rfl ?_
      exact s_X3_walksSo_j52 X Z hy v2 σ
    · refine r_iload_n (pc := 16) X dX3_walksSo_16 2 rfl rfl ?_
      refine r_if_eq (pc := 17) (tgt := 52) X dX3_walksSo_17 (by decide) ?_ ?_
      · refine r_sub [0, 2] rfl ?_
        exact s_X3_walksSo_j52 X Z hy v2 σ
      · refine r_aload_n (pc := 20) X dX3_walksSo_20 0 rfl rfl ?_
        refine r_geta (pc := 21) X dX3_walksSo_21 fl_X3_34 oc_13 (by decide) ?_
        refine r_iload_n (pc := 24) X dX3_walksSo_24 1 rfl rfl ?_
        refine r_iald (pc := 25) X dX3_walksSo_25 ar_13_8 (fun x2 => ?_)
        refine r_aload_n (pc := 26) X dX3_walksSo_26 0 rfl rfl ?_
        refine r_geta (pc := 27) X dX3_walksSo_27 fl_X3_74 oc_13 (by decide) ?_
        refine r_iload_n (pc := 30) X dX3_walksSo_30 3 rfl rfl ?_
        refine r_iald (pc := 31) X dX3_walksSo_31 ar_13_34 (fun x3 => ?_)
        refine r_icmp_ne (pc := 32) (tgt := 39) X dX3_walksSo_32 (by decide) ?_ ?_
        · refine r_iconst (pc := 39) X dX3_walksSo_39 kc_0 ?_
          refine r_sub [0, 1, 3] rfl ?_
          exact s_X3_walksSo_j40 X Z hy (fun v1 v2 v3 s => ih v1 v2 v3 s) v1 v3 0 σ
        · refine r_iconst (pc := 35) X dX3_walksSo_35 kc_1 ?_
          refine r_goto (pc := 36) (tgt := 40) X dX3_walksSo_36 (by decide) ?_
          refine r_sub [0, 1, 3] rfl ?_
          exact s_X3_walksSo_j40 X Z hy (fun v1 v2 v3 s => ih v1 v2 v3 s) v1 v3 1 σ

set_option maxRecDepth 100000 in
theorem m_X3_walksSo {y : LY} {l : Launch}  {a0 : Int32} {σ : ST} {a : (Int32 × ST)} (h : T_X3_walksSo a0 σ = some a) : MU y l yX3_walksSo cX3_walksSo 4 (some .boolean) (rmd 6) [.ref (ad y 13), .int a0] σ (xI a) := by
  refine MU.of (φ := xI) h (by decide +kernel) rfl (fun E X Z hy => ?_)
  have X : CX y l E cX3_walksSo 4 RX3 (rmd 6) := X
  show WW y l E 4 _ 0 [(0, .ref (ad y 13)), (1, .int a0)] [] σ (T_X3_walksSo a0 σ)
  unfold T_X3_walksSo
  refine r_aload_n (pc := 0) X dX3_walksSo_0 0 rfl rfl ?_
  refine r_callvV (pc := 1) X dX3_walksSo_1 cf_X3_thinks ml_X3_238 (rf rfl rfl) hy oc_13.1 hc_3 (fun b hb => m_X3_thinks hb) rfl rfl (Nat.le_of_ble_eq_true rfl) (fun σ2 => ?_)
  refine r_iconst (pc := 4) X dX3_walksSo_4 kc_1 ?_
  refine r_istore_n (pc := 5) (lv' := [(2, .int _), (0, .ref _), (1, .int _)]) X dX3_walksSo_5 rfl (by decide) rfl ?_
  refine r_iconst (pc := 6) X dX3_walksSo_6 kc_0 ?_
  refine r_istore_n (pc := 7) (lv' := [(3, .int _), (2, .int _), (0, .ref _), (1, .int _)]) X dX3_walksSo_7 rfl (by decide) rfl ?_
  refine r_sub [2, 3, 1, 0] rfl ?_
  exact s_X3_walksSo_L8 X Z hy FU a0 1 0 σ2

set_option maxRecDepth 100000 in
theorem s_X3_bitsFor_L11 {y : LY} {l : Launch} {E : ET} (X : CX y l E cX3_bitsFor 8 RX3 (rmd 7)) (Z : ZX E (some .int)) (hy : y.1 ≤ (eS E).heap.size) {f1 n1 : Nat} (hA1 : AR 13 f1 n1)    (n : Nat) : ∀ (v1 : Int32) (v3 : Int32) (v4 : Int32) (v5 : Int32) (v6 : Int32) (v7 : Int32) (σ : ST), WW y l E 8 (fun a => QM y E (xI a)) 11 [(0, .ref (ad y 13)), (1, .int v1), (2, .ref (aa y 13 f1)), (3, .int v3), (4, .int v4), (5, .int v5), (6, .int v6), (7, .int v7)] [] σ (T_X3_bitsFor_L11 f1 n1 n v1 v3 v4 v5 v6 v7 σ) := by
  induction n with
  | zero => intros; exact r_none rfl
  | succ n ih =>
    intro v1 v3 v4 v5 v6 v7 σ
    unfold T_X3_bitsFor_L11
    refine r_iload (pc := 11) X dX3_bitsFor_11 7 rfl ?_
    refine r_iload (pc := 13) X dX3_bitsFor_13 4 rfl ?_
    refine r_icmp_ge (pc := 15) (tgt := 50) X dX3_bitsFor_15 (by decide) ?_ ?_
    · refine r_aload_n (pc := 50) X dX3_bitsFor_50 2 rfl rfl ?_
      refine r_iload_n (pc := 51) X dX3_bitsFor_51 3 rfl rfl ?_
      refine r_iload (pc := 52) X dX3_bitsFor_52 5 rfl ?_
      refine r_iast (pc := 54) X dX3_bitsFor_54 hA1 (fun σ1 => ?_)
      refine r_iload (pc := 55) X dX3_bitsFor_55 6 rfl ?_
      exact r_iret (pc := 57) X Z dX3_bitsFor_57 rfl
    · refine r_aload_n (pc := 18) X dX3_bitsFor_18 2 rfl rfl ?_
      refine r_iload_n (pc := 19) X dX3_bitsFor_19 3 rfl rfl ?_
      refine r_iload (pc := 20) X dX3_bitsFor_20 7 rfl ?_
      refine r_iast (pc := 22) X dX3_bitsFor_22 hA1 (fun σ2 => ?_)
      refine r_iload (pc := 23) X dX3_bitsFor_23 6 rfl ?_
      refine r_aload_n (pc := 25) X dX3_bitsFor_25 0 rfl rfl ?_
      refine r_iload_n (pc := 26) X dX3_bitsFor_26 1 rfl rfl ?_
      refine r_callvI (pc := 27) X dX3_bitsFor_27 cf_X3_walksSo ml_X3_317 (rf rfl rfl) hy oc_13.1 hc_3 (fun b hb => m_X3_walksSo hb) rfl rfl (Nat.le_of_ble_eq_true rfl) (fun x3 σ4 => ?_)
      refine r_if_eq (pc := 30) (tgt := 40) X dX3_bitsFor_30 (by decide) ?_ ?_
      · refine r_iconst (pc := 40) X dX3_bitsFor_40 kc_0 ?_
        refine r_ior (pc := 41) X dX3_bitsFor_41 ?_
        refine r_vl (fun x5 => ?_)
        refine r_istore (pc := 42) (lv' := [(6, .int _), (0, .ref _), (1, .int _), (2, .ref _), (3, .int _), (4, .int _), (5, .int _), (7, .int _)]) X dX3_bitsFor_42 (by decide) rfl ?_
        refine r_iinc (pc := 44) (lv' := [(6, .int _), (0, .ref _), (1, .int _), (2, .ref _), (3, .int _), (4, .int _), (5, .int _)]) X dX3_bitsFor_44 7 rfl (congrArg (fun z => v7 + z) kc_1) (by decide) rfl (fun x6 => ?_)
        refine r_goto (pc := 47) (tgt := 11) X dX3_bitsFor_47 (by decide) ?_
        refine r_sub [2, 3, 4, 5, 6, 7, 1, 0] rfl ?_
        exact ih v1 v3 v4 v5 x5 x6 σ4
      · refine r_iconst (pc := 33) X dX3_bitsFor_33 kc_1 ?_
        refine r_iload (pc := 34) X dX3_bitsFor_34 7 rfl ?_
        refine r_ishl (pc := 36) X dX3_bitsFor_36 rfl ?_
        refine r_goto (pc := 37) (tgt := 41) X dX3_bitsFor_37 (by decide) ?_
        refine r_ior (pc := 41) X dX3_bitsFor_41 ?_
        refine r_vl (fun x7 => ?_)
        refine r_istore (pc := 42) (lv' := [(6, .int _), (0, .ref _), (1, .int _), (2, .ref _), (3, .int _), (4, .int _), (5, .int _), (7, .int _)]) X dX3_bitsFor_42 (by decide) rfl ?_
        refine r_iinc (pc := 44) (lv' := [(6, .int _), (0, .ref _), (1, .int _), (2, .ref _), (3, .int _), (4, .int _), (5, .int _)]) X dX3_bitsFor_44 7 rfl (congrArg (fun z => v7 + z) kc_1) (by decide) rfl (fun x8 => ?_)
        refine r_goto (pc := 47) (tgt := 11) X dX3_bitsFor_47 (by decide) ?_
        refine r_sub [2, 3, 4, 5, 6, 7, 1, 0] rfl ?_
        exact ih v1 v3 v4 v5 x7 x8 σ4

set_option maxRecDepth 100000 in
theorem m_X3_bitsFor {y : LY} {l : Launch} {f1 n1 : Nat} (hA1 : AR 13 f1 n1) {a0 : Int32} {a2 : Int32} {a3 : Int32} {σ : ST} {a : (Int32 × ST)} (h : T_X3_bitsFor f1 n1 a0 a2 a3 σ = some a) : MU y l yX3_bitsFor cX3_bitsFor 8 (some .int) (rmd 7) [.ref (ad y 13), .int a0, .ref (aa y 13 f1), .int a2, .int a3] σ (xI a) := by
  refine MU.of (φ := xI) h (by decide +kernel) rfl (fun E X Z hy => ?_)
  have X : CX y l E cX3_bitsFor 8 RX3 (rmd 7) := X
  show WW y l E 8 _ 0 [(0, .ref (ad y 13)), (1, .int a0), (2, .ref (aa y 13 f1)), (3, .int a2), (4, .int a3)] [] σ (T_X3_bitsFor f1 n1 a0 a2 a3 σ)
  unfold T_X3_bitsFor
  refine r_aload_n (pc := 0) X dX3_bitsFor_0 2 rfl rfl ?_
  refine r_iload_n (pc := 1) X dX3_bitsFor_1 3 rfl rfl ?_
  refine r_iald (pc := 2) X dX3_bitsFor_2 hA1 (fun x1 => ?_)
  refine r_istore (pc := 3) (lv' := [(5, .int _), (0, .ref _), (1, .int _), (2, .ref _), (3, .int _), (4, .int _)]) X dX3_bitsFor_3 (by decide) rfl ?_
  refine r_iconst (pc := 5) X dX3_bitsFor_5 kc_0 ?_
  refine r_istore (pc := 6) (lv' := [(6, .int _), (5, .int _), (0, .ref _), (1, .int _), (2, .ref _), (3, .int _), (4, .int _)]) X dX3_bitsFor_6 (by decide) rfl ?_
  refine r_iconst (pc := 8) X dX3_bitsFor_8 kc_0 ?_
  refine r_istore (pc := 9) (lv' := [(7, .int _), (6, .int _), (5, .int _), (0, .ref _), (1, .int _), (2, .ref _), (3, .int _), (4, .int _)]) X dX3_bitsFor_9 (by decide) rfl ?_
  refine r_sub [3, 4, 5, 6, 7, 2, 1, 0] rfl ?_
  exact s_X3_bitsFor_L11 X Z hy hA1 FU a0 a2 a3 x1 0 0 σ

set_option maxRecDepth 100000 in
theorem s_X3_whose_j115 {y : LY} {l : Launch} {E : ET} (X : CX y l E cX3_whose 5 RX3 (rmd 8)) (Z : ZX E (some .int)) (hy : y.1 ≤ (eS E).heap.size)     (v4 : Int32) (s0 ns0 : Nat) (hs0 : AR 13 s0 ns0) (s1 : Int32) (σ : ST) : WW y l E 5 (fun a => QM y E (xI a)) 115 [(4, .int v4)] [.ref (aa y 13 s0), .int s1, .ref (ad y 13)] σ (T_X3_whose_j115   v4 s0 ns0 s1 σ) := by
  unfold T_X3_whose_j115
  refine r_iload (pc := 115) X dX3_whose_115 0 rfl ?_
  refine r_bipush (pc := 117) X dX3_whose_117 kb_10 ?_
  refine r_callvI (pc := 119) X dX3_whose_119 cf_X3_bitsFor ml_X3_320 (rf rfl rfl) hy oc_13.1 hc_3 (fun b hb => m_X3_bitsFor hs0 hb) rfl rfl (Nat.le_of_ble_eq_true rfl) (fun x1 σ2 => ?_)
  exact r_iret (pc := 122) X Z dX3_whose_122 rfl

set_option maxRecDepth 100000 in
theorem s_X3_whose_j27 {y : LY} {l : Launch} {E : ET} (X : CX y l E cX3_whose 5 RX3 (rmd 8)) (Z : ZX E (some .int)) (hy : y.1 ≤ (eS E).heap.size)     (v1 : Int32) (v2 : Int32) (s0 : Int32) (σ : ST) : WW y l E 5 (fun a => QM y E (xI a)) 27 [(0, .ref (ad y 13)), (1, .int v1), (2, .int v2)] [.int s0] σ (T_X3_whose_j27   v1 v2 s0 σ) := by
  unfold T_X3_whose_j27
  refine r_istore_n (pc := 27) (lv' := [(3, .int _), (0, .ref _), (1, .int _), (2, .int _)]) X dX3_whose_27 rfl (by decide) rfl ?_
  refine r_iload_n (pc := 28) X dX3_whose_28 0 rfl rfl ?_
  refine r_if_eq (pc := 29) (tgt := 38) X dX3_whose_29 (by decide) ?_ ?_
  · refine r_aload_n (pc := 38) X dX3_whose_38 1 rfl rfl ?_
    refine r_geta (pc := 39) X dX3_whose_39 fl_X3_37 oc_13 (by decide) ?_
    refine r_iload_n (pc := 42) X dX3_whose_42 2 rfl rfl ?_
    refine r_iald (pc := 43) X dX3_whose_43 ar_13_9 (fun x1 => ?_)
    refine r_bipush (pc := 44) X dX3_whose_44 kb_9 ?_
    refine r_icmp_ne (pc := 46) (tgt := 51) X dX3_whose_46 (by decide) ?_ ?_
    · refine r_aload_n (pc := 51) X dX3_whose_51 1 rfl rfl ?_
      refine r_geta (pc := 52) X dX3_whose_52 fl_X3_37 oc_13 (by decide) ?_
      refine r_iload_n (pc := 55) X dX3_whose_55 2 rfl rfl ?_
      refine r_iald (pc := 56) X dX3_whose_56 ar_13_9 (fun x2 => ?_)
      refine r_istore (pc := 57) (lv' := [(4, .int _), (3, .int _), (0, .ref _), (1, .int _), (2, .int _)]) X dX3_whose_57 (by decide) rfl ?_
      refine r_iload_n (pc := 59) X dX3_whose_59 4 rfl rfl ?_
      refine r_iconst (pc := 60) X dX3_whose_60 kc_3 ?_
      refine r_icmp_ne (pc := 61) (tgt := 77) X dX3_whose_61 (by decide) ?_ ?_
      · refine r_iload_n (pc := 77) X dX3_whose_77 4 rfl rfl ?_
        refine r_if_ne (pc := 78) (tgt := 97) X dX3_whose_78 (by decide) ?_ ?_
        · refine r_aload_n (pc := 97) X dX3_whose_97 2 rfl rfl ?_
          refine r_iload_n (pc := 98) X dX3_whose_98 3 rfl rfl ?_
          refine r_iload_n (pc := 99) X dX3_whose_99 4 rfl rfl ?_
          refine r_iconst (pc := 100) X dX3_whose_100 kc_1 ?_
          refine r_icmp_ne (pc := 101) (tgt := 111) X dX3_whose_101 (by decide) ?_ ?_
          · refine r_aload_n (pc := 111) X dX3_whose_111 2 rfl rfl ?_
            refine r_geta (pc := 112) X dX3_whose_112 fl_X3_19 oc_13 (by decide) ?_
            refine r_sub [0] rfl ?_
            exact s_X3_whose_j115 X Z hy x2 3 6 ar_13_3 v1 σ
          · refine r_aload_n (pc := 104) X dX3_whose_104 2 rfl rfl ?_
            refine r_geta (pc := 105) X dX3_whose_105 fl_X3_16 oc_13 (by decide) ?_
            refine r_goto (pc := 108) (tgt := 115) X dX3_whose_108 (by decide) ?_
            refine r_sub [0] rfl ?_
            exact s_X3_whose_j115 X Z hy x2 2 6 ar_13_2 v1 σ
        · refine r_aload_n (pc := 81) X dX3_whose_81 2 rfl rfl ?_
          refine r_iload_n (pc := 82) X dX3_whose_82 3 rfl rfl ?_
          refine r_aload_n (pc := 83) X dX3_whose_83 2 rfl rfl ?_
          refine r_geta (pc := 84) X dX3_whose_84 fl_X3_13 oc_13 (by decide) ?_
          refine r_iload (pc := 87) X dX3_whose_87 0 rfl ?_
          refine r_bipush (pc := 89) X dX3_whose_89 kb_6 ?_
          refine r_callvI (pc := 91) X dX3_whose_91 cf_X3_bitsFor ml_X3_320 (rf rfl rfl) hy oc_13.1 hc_3 (fun b hb => m_X3_bitsFor ar_13_1 hb) rfl rfl (Nat.le_of_ble_eq_true rfl) (fun x3 σ4 => ?_)
          refine r_goto (pc := 94) (tgt := 122) X dX3_whose_94 (by decide) ?_
          exact r_iret (pc := 122) X Z dX3_whose_122 rfl
      · refine r_aload_n (pc := 64) X dX3_whose_64 2 rfl rfl ?_
        refine r_iload_n (pc := 65) X dX3_whose_65 3 rfl rfl ?_
        refine r_aload_n (pc := 66) X dX3_whose_66 2 rfl rfl ?_
        refine r_geta (pc := 67) X dX3_whose_67 fl_X3_28 oc_13 (by decide) ?_
        refine r_iload_n (pc := 70) X dX3_whose_70 3 rfl rfl ?_
        refine r_bipush (pc := 71) X dX3_whose_71 kb_10 ?_
        refine r_callvI (pc := 73) X dX3_whose_73 cf_X3_bitsFor ml_X3_320 (rf rfl rfl) hy oc_13.1 hc_3 (fun b hb => m_X3_bitsFor ar_13_6 hb) rfl rfl (Nat.le_of_ble_eq_true rfl) (fun x5 σ6 => ?_)
        exact r_iret (pc := 76) X Z dX3_whose_76 rfl
    · refine r_iconst (pc := 49) X dX3_whose_49 kc_0 ?_
      exact r_iret (pc := 50) X Z dX3_whose_50 rfl
  · refine r_aload_n (pc := 32) X dX3_whose_32 1 rfl rfl ?_
    refine r_iload_n (pc := 33) X dX3_whose_33 0 rfl rfl ?_
    refine r_callvI (pc := 34) X dX3_whose_34 cf_X3_no ml_X3_102 (rf rfl rfl) hy oc_13.1 hc_3 (fun b hb => m_X3_no hb) rfl rfl (Nat.le_of_ble_eq_true rfl) (fun x7 σ8 => ?_)
    exact r_iret (pc := 37) X Z dX3_whose_37 rfl

set_option maxRecDepth 100000 in
theorem m_X3_whose {y : LY} {l : Launch}  {a0 : Int32} {a1 : Int32} {σ : ST} {a : (Int32 × ST)} (h : T_X3_whose a0 a1 σ = some a) : MU y l yX3_whose cX3_whose 5 (some .int) (rmd 8) [.ref (ad y 13), .int a0, .int a1] σ (xI a) := by
  refine MU.of (φ := xI) h (by decide +kernel) rfl (fun E X Z hy => ?_)
  have X : CX y l E cX3_whose 5 RX3 (rmd 8) := X
  show WW y l E 5 _ 0 [(0, .ref (ad y 13)), (1, .int a0), (2, .int a1)] [] σ (T_X3_whose a0 a1 σ)
  unfold T_X3_whose
  refine r_aload_n (pc := 0) X dX3_whose_0 0 rfl rfl ?_
  refine r_iload_n (pc := 1) X dX3_whose_1 1 rfl rfl ?_
  refine r_callvp (pc := 2) X dX3_whose_2 cf_X3_isBearer ml_X3_91 (rf rfl rfl) hy oc_13.1 hc_3 (fun b hb => m_X3_isBearer hb) rfl rfl (Nat.le_of_ble_eq_true rfl) (fun x1 => ?_)
  refine r_if_ne (pc := 5) (tgt := 12) X dX3_whose_5 (by decide) ?_ ?_
  · refine r_iload_n (pc := 12) X dX3_whose_12 2 rfl rfl ?_
    refine r_iconst (pc := 13) X dX3_whose_13 kc_0 ?_
    refine r_iconst (pc := 14) X dX3_whose_14 kc_3 ?_
    refine r_callsp (pc := 15) X dX3_whose_15 cf_X3_isIn ml_X3_113 (rf rfl rfl) hy (fun b hb => m_X3_isIn hb) rfl rfl (Nat.le_of_ble_eq_true rfl) (fun x3 => ?_)
    refine r_if_ne (pc := 18) (tgt := 26) X dX3_whose_18 (by decide) ?_ ?_
    · refine r_iconst (pc := 26) X dX3_whose_26 kc_0 ?_
      exact s_X3_whose_j27 X Z hy a0 a1 0 σ
    · refine r_bipush (pc := 21) X dX3_whose_21 kb_m2 ?_
      refine r_goto (pc := 23) (tgt := 27) X dX3_whose_23 (by decide) ?_
      exact s_X3_whose_j27 X Z hy a0 a1 ((-2)) σ
  · refine r_iconst (pc := 8) X dX3_whose_8 kc_m1 ?_
    refine r_goto (pc := 9) (tgt := 27) X dX3_whose_9 (by decide) ?_
    exact s_X3_whose_j27 X Z hy a0 a1 ((-1)) σ

set_option maxRecDepth 100000 in
theorem m_X3_atIn {y : LY} {l : Launch}  {a0 : Int32} {a1 : Int32} {σ : ST} {a : (Int32 × ST)} (h : T_X3_atIn a0 a1 σ = some a) : MU y l yX3_atIn cX3_atIn 4 (some .int) (rmd 7) [.ref (ad y 13), .int a0, .int a1] σ (xI a) := by
  refine MU.of (φ := xI) h (by decide +kernel) rfl (fun E X Z hy => ?_)
  have X : CX y l E cX3_atIn 4 RX3 (rmd 7) := X
  show WW y l E 4 _ 0 [(0, .ref (ad y 13)), (1, .int a0), (2, .int a1)] [] σ (T_X3_atIn a0 a1 σ)
  unfold T_X3_atIn
  refine r_aload_n (pc := 0) X dX3_atIn_0 0 rfl rfl ?_
  refine r_callvV (pc := 1) X dX3_atIn_1 cf_X3_thinks ml_X3_238 (rf rfl rfl) hy oc_13.1 hc_3 (fun b hb => m_X3_thinks hb) rfl rfl (Nat.le_of_ble_eq_true rfl) (fun σ2 => ?_)
  refine r_aload_n (pc := 4) X dX3_atIn_4 0 rfl rfl ?_
  refine r_iload_n (pc := 5) X dX3_atIn_5 2 rfl rfl ?_
  refine r_callvV (pc := 6) X dX3_atIn_6 cf_X3_goes ml_X3_232 (rf rfl rfl) hy oc_13.1 hc_3 (fun b hb => m_X3_goes hb) rfl rfl (Nat.le_of_ble_eq_true rfl) (fun σ4 => ?_)
  refine r_aload_n (pc := 9) X dX3_atIn_9 0 rfl rfl ?_
  refine r_geta (pc := 10) X dX3_atIn_10 fl_X3_34 oc_13 (by decide) ?_
  refine r_iload_n (pc := 13) X dX3_atIn_13 1 rfl rfl ?_
  refine r_iald (pc := 14) X dX3_atIn_14 ar_13_8 (fun x5 => ?_)
  refine r_istore_n (pc := 15) (lv' := [(3, .int _), (0, .ref _), (1, .int _), (2, .int _)]) X dX3_atIn_15 rfl (by decide) rfl ?_
  refine r_aload_n (pc := 16) X dX3_atIn_16 1 rfl rfl ?_
  refine r_callvV (pc := 17) X dX3_atIn_17 cf_X3_forgets ml_X3_241 (rf rfl rfl) hy oc_13.1 hc_3 (fun b hb => m_X3_forgets hb) rfl rfl (Nat.le_of_ble_eq_true rfl) (fun σ7 => ?_)
  refine r_iload_n (pc := 20) X dX3_atIn_20 0 rfl rfl ?_
  exact r_iret (pc := 21) X Z dX3_atIn_21 rfl

set_option maxRecDepth 100000 in
theorem s_X3_unlikeBy_L69 {y : LY} {l : Launch} {E : ET} (X : CX y l E cX3_unlikeBy 8 RX3 (rmd 8)) (Z : ZX E (some .int)) (hy : y.1 ≤ (eS E).heap.size)     (n : Nat) : ∀ (v5 : Int32) (v6 : Int32) (v7 : Int32) (σ : ST), WW y l E 8 (fun a => QM y E (xI a)) 69 [(5, .int v5), (6, .int v6), (7, .int v7)] [] σ (T_X3_unlikeBy_L69  n v5 v6 v7 σ) := by
  induction n with
  | zero => intros; exact r_none rfl
  | succ n ih =>
    intro v5 v6 v7 σ
    unfold T_X3_unlikeBy_L69
    refine r_iload (pc := 69) X dX3_unlikeBy_69 2 rfl ?_
    refine r_bipush (pc := 71) X dX3_unlikeBy_71 kb_10 ?_
    refine r_icmp_ge (pc := 73) (tgt := 94) X dX3_unlikeBy_73 (by decide) ?_ ?_
    · refine r_iload (pc := 94) X dX3_unlikeBy_94 1 rfl ?_
      exact r_iret (pc := 96) X Z dX3_unlikeBy_96 rfl
    · refine r_iload (pc := 76) X dX3_unlikeBy_76 1 rfl ?_
      refine r_iload (pc := 78) X dX3_unlikeBy_78 0 rfl ?_
      refine r_iload (pc := 80) X dX3_unlikeBy_80 2 rfl ?_
      refine r_ishr (pc := 82) X dX3_unlikeBy_82 rfl ?_
      refine r_iconst (pc := 83) X dX3_unlikeBy_83 kc_1 ?_
      refine r_iand (pc := 84) X dX3_unlikeBy_84 ?_
      refine r_iadd (pc := 85) X dX3_unlikeBy_85 ?_
      refine r_vl (fun x1 => ?_)
      refine r_istore (pc := 86) (lv' := [(6, .int _), (5, .int _), (7, .int _)]) X dX3_unlikeBy_86 (by decide) rfl ?_
      refine r_iinc (pc := 88) (lv' := [(6, .int _), (5, .int _)]) X dX3_unlikeBy_88 2 rfl (congrArg (fun z => v7 + z) kc_1) (by decide) rfl (fun x2 => ?_)
      refine r_goto (pc := 91) (tgt := 69) X dX3_unlikeBy_91 (by decide) ?_
      refine r_sub [2, 1, 0] rfl ?_
      exact ih v5 x1 x2 σ

set_option maxRecDepth 100000 in
theorem s_X3_unlikeBy_L21 {y : LY} {l : Launch} {E : ET} (X : CX y l E cX3_unlikeBy 8 RX3 (rmd 8)) (Z : ZX E (some .int)) (hy : y.1 ≤ (eS E).heap.size)     (n : Nat) : ∀ (v1 : Int32) (v2 : Int32) (v3 : Int32) (v4 : Int32) (v5 : Int32) (v6 : Int32) (σ : ST), WW y l E 8 (fun a => QM y E (xI a)) 21 [(0, .ref (ad y 13)), (1, .int v1), (2, .int v2), (3, .int v3), (4, .int v4), (5, .int v5), (6, .int v6)] [] σ (T_X3_unlikeBy_L21  n v1 v2 v3 v4 v5 v6 σ) := by
  induction n with
  | zero => intros; exact r_none rfl
  | succ n ih =>
    intro v1 v2 v3 v4 v5 v6 σ
    unfold T_X3_unlikeBy_L21
    refine r_iload (pc := 21) X dX3_unlikeBy_21 6 rfl ?_
    refine r_bipush (pc := 23) X dX3_unlikeBy_23 kb_6 ?_
    refine r_icmp_ge (pc := 25) (tgt := 55) X dX3_unlikeBy_25 (by decide) ?_ ?_
    · refine r_aload_n (pc := 55) X dX3_unlikeBy_55 0 rfl rfl ?_
      refine r_geta (pc := 56) X dX3_unlikeBy_56 fl_X3_13 oc_13 (by decide) ?_
      refine r_iload_n (pc := 59) X dX3_unlikeBy_59 3 rfl rfl ?_
      refine r_iload (pc := 60) X dX3_unlikeBy_60 4 rfl ?_
      refine r_iast (pc := 62) X dX3_unlikeBy_62 ar_13_1 (fun σ1 => ?_)
      refine r_iconst (pc := 63) X dX3_unlikeBy_63 kc_0 ?_
      refine r_istore (pc := 64) (lv' := [(6, .int _), (0, .ref _), (1, .int _), (2, .int _), (3, .int _), (4, .int _), (5, .int _)]) X dX3_unlikeBy_64 (by decide) rfl ?_
      refine r_iconst (pc := 66) X dX3_unlikeBy_66 kc_0 ?_
      refine r_istore (pc := 67) (lv' := [(7, .int _), (6, .int _), (0, .ref _), (1, .int _), (2, .int _), (3, .int _), (4, .int _), (5, .int _)]) X dX3_unlikeBy_67 (by decide) rfl ?_
      refine r_sub [7, 1, 0] rfl ?_
      exact s_X3_unlikeBy_L69 X Z hy FU v5 0 0 σ1
    · refine r_aload_n (pc := 28) X dX3_unlikeBy_28 0 rfl rfl ?_
      refine r_geta (pc := 29) X dX3_unlikeBy_29 fl_X3_13 oc_13 (by decide) ?_
      refine r_iload_n (pc := 32) X dX3_unlikeBy_32 3 rfl rfl ?_
      refine r_iload (pc := 33) X dX3_unlikeBy_33 6 rfl ?_
      refine r_iast (pc := 35) X dX3_unlikeBy_35 ar_13_1 (fun σ2 => ?_)
      refine r_iload (pc := 36) X dX3_unlikeBy_36 5 rfl ?_
      refine r_iconst (pc := 38) X dX3_unlikeBy_38 kc_1 ?_
      refine r_aload_n (pc := 39) X dX3_unlikeBy_39 0 rfl rfl ?_
      refine r_iload_n (pc := 40) X dX3_unlikeBy_40 1 rfl rfl ?_
      refine r_iload_n (pc := 41) X dX3_unlikeBy_41 2 rfl rfl ?_
      refine r_callvI (pc := 42) X dX3_unlikeBy_42 cf_X3_atIn ml_X3_324 (rf rfl rfl) hy oc_13.1 hc_3 (fun b hb => m_X3_atIn hb) rfl rfl (Nat.le_of_ble_eq_true rfl) (fun x3 σ4 => ?_)
      refine r_ishl (pc := 45) X dX3_unlikeBy_45 rfl ?_
      refine r_ior (pc := 46) X dX3_unlikeBy_46 ?_
      refine r_vl (fun x5 => ?_)
      refine r_istore (pc := 47) (lv' := [(5, .int _), (0, .ref _), (1, .int _), (2, .int _), (3, .int _), (4, .int _), (6, .int _)]) X dX3_unlikeBy_47 (by decide) rfl ?_
      refine r_iinc (pc := 49) (lv' := [(5, .int _), (0, .ref _), (1, .int _), (2, .int _), (3, .int _), (4, .int _)]) X dX3_unlikeBy_49 6 rfl (congrArg (fun z => v6 + z) kc_1) (by decide) rfl (fun x6 => ?_)
      refine r_goto (pc := 52) (tgt := 21) X dX3_unlikeBy_52 (by decide) ?_
      refine r_sub [2, 3, 4, 5, 6, 1, 0] rfl ?_
      exact ih v1 v2 v3 v4 x5 x6 σ4

set_option maxRecDepth 100000 in
theorem m_X3_unlikeBy {y : LY} {l : Launch}  {a0 : Int32} {a1 : Int32} {σ : ST} {a : (Int32 × ST)} (h : T_X3_unlikeBy a0 a1 σ = some a) : MU y l yX3_unlikeBy cX3_unlikeBy 8 (some .int) (rmd 8) [.ref (ad y 13), .int a0, .int a1] σ (xI a) := by
  refine MU.of (φ := xI) h (by decide +kernel) rfl (fun E X Z hy => ?_)
  have X : CX y l E cX3_unlikeBy 8 RX3 (rmd 8) := X
  show WW y l E 8 _ 0 [(0, .ref (ad y 13)), (1, .int a0), (2, .int a1)] [] σ (T_X3_unlikeBy a0 a1 σ)
  unfold T_X3_unlikeBy
  refine r_aload_n (pc := 0) X dX3_unlikeBy_0 0 rfl rfl ?_
  refine r_geta (pc := 1) X dX3_unlikeBy_1 fl_X3_37 oc_13 (by decide) ?_
  refine r_iload_n (pc := 4) X dX3_unlikeBy_4 1 rfl rfl ?_
  refine r_iald (pc := 5) X dX3_unlikeBy_5 ar_13_9 (fun x1 => ?_)
  refine r_istore_n (pc := 6) (lv' := [(3, .int _), (0, .ref _), (1, .int _), (2, .int _)]) X dX3_unlikeBy_6 rfl (by decide) rfl ?_
  refine r_aload_n (pc := 7) X dX3_unlikeBy_7 1 rfl rfl ?_
  refine r_geta (pc := 8) X dX3_unlikeBy_8 fl_X3_13 oc_13 (by decide) ?_
  refine r_iload_n (pc := 11) X dX3_unlikeBy_11 0 rfl rfl ?_
  refine r_iald (pc := 12) X dX3_unlikeBy_12 ar_13_1 (fun x2 => ?_)
  refine r_istore (pc := 13) (lv' := [(4, .int _), (3, .int _), (0, .ref _), (1, .int _), (2, .int _)]) X dX3_unlikeBy_13 (by decide) rfl ?_
  refine r_iconst (pc := 15) X dX3_unlikeBy_15 kc_0 ?_
  refine r_istore (pc := 16) (lv' := [(5, .int _), (4, .int _), (3, .int _), (0, .ref _), (1, .int _), (2, .int _)]) X dX3_unlikeBy_16 (by decide) rfl ?_
  refine r_iconst (pc := 18) X dX3_unlikeBy_18 kc_0 ?_
  refine r_istore (pc := 19) (lv' := [(6, .int _), (5, .int _), (4, .int _), (3, .int _), (0, .ref _), (1, .int _), (2, .int _)]) X dX3_unlikeBy_19 (by decide) rfl ?_
  refine r_sub [4, 5, 6, 3, 2, 1, 0] rfl ?_
  exact s_X3_unlikeBy_L21 X Z hy FU a0 a1 x1 x2 0 0 σ

set_option maxRecDepth 100000 in
theorem s_X3_nextTell_L76 {y : LY} {l : Launch} {E : ET} (X : CX y l E cX3_nextTell 10 RX3 (rmd 9)) (Z : ZX E (some .int)) (hy : y.1 ≤ (eS E).heap.size)     (n : Nat) : ∀ (v1 : Int32) (v2 : Int32) (v3 : Int32) (v5 : Int32) (v6 : Int32) (v7 : Int32) (v8 : Int32) (σ : ST), WW y l E 10 (fun a => QM y E (xI a)) 76 [(0, .ref (ad y 13)), (1, .int v1), (2, .int v2), (3, .int v3), (5, .int v5), (6, .int v6), (7, .int v7), (8, .int v8)] [] σ (T_X3_nextTell_L76  n v1 v2 v3 v5 v6 v7 v8 σ) := by
  induction n with
  | zero => intros; exact r_none rfl
  | succ n ih =>
    intro v1 v2 v3 v5 v6 v7 v8 σ
    unfold T_X3_nextTell_L76
    refine r_iload (pc := 76) X dX3_nextTell_76 7 rfl ?_
    refine r_bipush (pc := 78) X dX3_nextTell_78 kb_10 ?_
    refine r_icmp_ge (pc := 80) (tgt := 121) X dX3_nextTell_80 (by decide) ?_ ?_
    · refine r_aload_n (pc := 121) X dX3_nextTell_121 0 rfl rfl ?_
      refine r_iload (pc := 122) X dX3_nextTell_122 4 rfl ?_
      refine r_puti (pc := 124) X dX3_nextTell_124 fl_X3_151 fw_3_14 oc_13 rfl (fun σ1 => ?_)
      refine r_iload_n (pc := 127) X dX3_nextTell_127 3 rfl rfl ?_
      refine r_if_ne (pc := 128) (tgt := 136) X dX3_nextTell_128 (by decide) ?_ ?_
      · refine r_iload (pc := 136) X dX3_nextTell_136 6 rfl ?_
        exact r_iret (pc := 138) X Z dX3_nextTell_138 rfl
      · refine r_iload (pc := 131) X dX3_nextTell_131 5 rfl ?_
        refine r_goto (pc := 133) (tgt := 138) X dX3_nextTell_133 (by decide) ?_
        exact r_iret (pc := 138) X Z dX3_nextTell_138 rfl
    · refine r_aload_n (pc := 83) X dX3_nextTell_83 0 rfl rfl ?_
      refine r_iload (pc := 84) X dX3_nextTell_84 7 rfl ?_
      refine r_puti (pc := 86) X dX3_nextTell_86 fl_X3_151 fw_3_14 oc_13 rfl (fun σ2 => ?_)
      refine r_aload_n (pc := 89) X dX3_nextTell_89 0 rfl rfl ?_
      refine r_iload_n (pc := 90) X dX3_nextTell_90 1 rfl rfl ?_
      refine r_iload_n (pc := 91) X dX3_nextTell_91 2 rfl rfl ?_
      refine r_callvI (pc := 92) X dX3_nextTell_92 cf_X3_unlikeBy ml_X3_327 (rf rfl rfl) hy oc_13.1 hc_3 (fun b hb => m_X3_unlikeBy hb) rfl rfl (Nat.le_of_ble_eq_true rfl) (fun x3 σ4 => ?_)
      refine r_istore (pc := 95) (lv' := [(9, .int _), (0, .ref _), (1, .int _), (2, .int _), (3, .int _), (5, .int _), (6, .int _), (7, .int _), (8, .int _)]) X dX3_nextTell_95 (by decide) rfl ?_
      refine r_iload (pc := 97) X dX3_nextTell_97 0 rfl ?_
      refine r_iload (pc := 99) X dX3_nextTell_99 7 rfl ?_
      refine r_icmp_gt (pc := 101) (tgt := 107) X dX3_nextTell_101 (by decide) ?_ ?_
      · refine r_iload (pc := 107) X dX3_nextTell_107 8 rfl ?_
        refine r_istore (pc := 109) (lv' := [(6, .int _), (9, .int _), (0, .ref _), (1, .int _), (2, .int _), (3, .int _), (5, .int _), (7, .int _), (8, .int _)]) X dX3_nextTell_109 (by decide) rfl ?_
        refine r_iload (pc := 111) X dX3_nextTell_111 1 rfl ?_
        refine r_istore (pc := 113) (lv' := [(7, .int _), (6, .int _), (9, .int _), (0, .ref _), (1, .int _), (2, .int _), (3, .int _), (5, .int _), (8, .int _)]) X dX3_nextTell_113 (by decide) rfl ?_
        refine r_iinc (pc := 115) (lv' := [(7, .int _), (6, .int _), (9, .int _), (0, .ref _), (1, .int _), (2, .int _), (3, .int _), (5, .int _)]) X dX3_nextTell_115 8 rfl (congrArg (fun z => v8 + z) kc_1) (by decide) rfl (fun x5 => ?_)
        refine r_goto (pc := 118) (tgt := 76) X dX3_nextTell_118 (by decide) ?_
        refine r_sub [4, 5, 6, 7, 8, 2, 1, 0] rfl ?_
        exact ih v1 v2 v3 v5 v8 x3 x5 σ4
      · refine r_goto (pc := 104) (tgt := 115) X dX3_nextTell_104 (by decide) ?_
        refine r_iinc (pc := 115) (lv' := [(9, .int _), (0, .ref _), (1, .int _), (2, .int _), (3, .int _), (5, .int _), (6, .int _), (7, .int _)]) X dX3_nextTell_115 8 rfl (congrArg (fun z => v8 + z) kc_1) (by decide) rfl (fun x6 => ?_)
        refine r_goto (pc := 118) (tgt := 76) X dX3_nextTell_118 (by decide) ?_
        refine r_sub [2, 3, 4, 5, 6, 7, 8, 0] rfl ?_
        exact ih v1 v2 v3 v5 v6 v7 x6 σ4

set_option maxRecDepth 100000 in
theorem s_X3_nextTell_j36 {y : LY} {l : Launch} {E : ET} (X : CX y l E cX3_nextTell 10 RX3 (rmd 9)) (Z : ZX E (some .int)) (hy : y.1 ≤ (eS E).heap.size)     (v1 : Int32) (v2 : Int32) (v3 : Int32) (v4 : Int32) (σ : ST) : WW y l E 10 (fun a => QM y E (xI a)) 36 [(0, .ref (ad y 13)), (1, .int v1), (2, .int v2), (3, .int v3), (4, .int v4)] [] σ (T_X3_nextTell_j36   v1 v2 v3 v4 σ) := by
  unfold T_X3_nextTell_j36
  refine r_iload (pc := 36) X dX3_nextTell_36 4 rfl ?_
  refine r_if_eq (pc := 38) (tgt := 48) X dX3_nextTell_38 (by decide) ?_ ?_
  · refine r_aload_n (pc := 48) X dX3_nextTell_48 0 rfl rfl ?_
    refine r_geta (pc := 49) X dX3_nextTell_49 fl_X3_37 oc_13 (by decide) ?_
    refine r_iload_n (pc := 52) X dX3_nextTell_52 1 rfl rfl ?_
    refine r_iald (pc := 53) X dX3_nextTell_53 ar_13_9 (fun x1 => ?_)
    refine r_bipush (pc := 54) X dX3_nextTell_54 kb_9 ?_
    refine r_icmp_ne (pc := 56) (tgt := 61) X dX3_nextTell_56 (by decide) ?_ ?_
    · refine r_aload_n (pc := 61) X dX3_nextTell_61 0 rfl rfl ?_
      refine r_geti (pc := 62) X dX3_nextTell_62 fl_X3_151 oc_13 rfl (fun x2 => ?_)
      refine r_istore (pc := 65) (lv' := [(5, .int _), (0, .ref _), (1, .int _), (2, .int _), (3, .int _), (4, .int _)]) X dX3_nextTell_65 (by decide) rfl ?_
      refine r_iconst (pc := 67) X dX3_nextTell_67 kc_0 ?_
      refine r_istore (pc := 68) (lv' := [(6, .int _), (5, .int _), (0, .ref _), (1, .int _), (2, .int _), (3, .int _), (4, .int _)]) X dX3_nextTell_68 (by decide) rfl ?_
      refine r_iconst (pc := 70) X dX3_nextTell_70 kc_0 ?_
      refine r_istore (pc := 71) (lv' := [(7, .int _), (6, .int _), (5, .int _), (0, .ref _), (1, .int _), (2, .int _), (3, .int _), (4, .int _)]) X dX3_nextTell_71 (by decide) rfl ?_
      refine r_iconst (pc := 73) X dX3_nextTell_73 kc_0 ?_
      refine r_istore (pc := 74) (lv' := [(8, .int _), (7, .int _), (6, .int _), (5, .int _), (0, .ref _), (1, .int _), (2, .int _), (3, .int _), (4, .int _)]) X dX3_nextTell_74 (by decide) rfl ?_
      refine r_sub [4, 5, 6, 7, 3, 2, 1, 0] rfl ?_
      exact s_X3_nextTell_L76 X Z hy FU v1 v2 v3 x2 0 0 0 σ
    · refine r_iload_n (pc := 59) X dX3_nextTell_59 3 rfl rfl ?_
      exact r_iret (pc := 60) X Z dX3_nextTell_60 rfl
  · refine r_aload_n (pc := 41) X dX3_nextTell_41 0 rfl rfl ?_
    refine r_iload (pc := 42) X dX3_nextTell_42 4 rfl ?_
    refine r_callvI (pc := 44) X dX3_nextTell_44 cf_X3_no ml_X3_102 (rf rfl rfl) hy oc_13.1 hc_3 (fun b hb => m_X3_no hb) rfl rfl (Nat.le_of_ble_eq_true rfl) (fun x3 σ4 => ?_)
    exact r_iret (pc := 47) X Z dX3_nextTell_47 rfl

set_option maxRecDepth 100000 in
theorem s_X3_nextTell_j16 {y : LY} {l : Launch} {E : ET} (X : CX y l E cX3_nextTell 10 RX3 (rmd 9)) (Z : ZX E (some .int)) (hy : y.1 ≤ (eS E).heap.size)     (v1 : Int32) (v2 : Int32) (v3 : Int32) (s0 : Int32) (σ : ST) : WW y l E 10 (fun a => QM y E (xI a)) 16 [(0, .ref (ad y 13)), (1, .int v1), (2, .int v2), (3, .int v3)] [.int s0] σ (T_X3_nextTell_j16   v1 v2 v3 s0 σ) := by
  unfold T_X3_nextTell_j16
  refine r_istore (pc := 16) (lv' := [(4, .int _), (0, .ref _), (1, .int _), (2, .int _), (3, .int _)]) X dX3_nextTell_16 (by decide) rfl ?_
  refine r_iload (pc := 18) X dX3_nextTell_18 0 rfl ?_
  refine r_if_ne (pc := 20) (tgt := 36) X dX3_nextTell_20 (by decide) ?_ ?_
  · refine r_sub [1, 2, 3, 4, 0] rfl ?_
    exact s_X3_nextTell_j36 X Z hy v1 v2 v3 s0 σ
  · refine r_iload_n (pc := 23) X dX3_nextTell_23 4 rfl rfl ?_
    refine r_iconst (pc := 24) X dX3_nextTell_24 kc_0 ?_
    refine r_iconst (pc := 25) X dX3_nextTell_25 kc_1 ?_
    refine r_callsp (pc := 26) X dX3_nextTell_26 cf_X3_isIn ml_X3_113 (rf rfl rfl) hy (fun b hb => m_X3_isIn hb) rfl rfl (Nat.le_of_ble_eq_true rfl) (fun x1 => ?_)
    refine r_if_ne (pc := 29) (tgt := 36) X dX3_nextTell_29 (by decide) ?_ ?_
    · refine r_sub [1, 2, 3, 4, 0] rfl ?_
      exact s_X3_nextTell_j36 X Z hy v1 v2 v3 s0 σ
    · refine r_bipush (pc := 32) X dX3_nextTell_32 kb_m2 ?_
      refine r_istore (pc := 34) (lv' := [(4, .int _), (0, .ref _), (1, .int _), (2, .int _), (3, .int _)]) X dX3_nextTell_34 (by decide) rfl ?_
      refine r_sub [1, 2, 3, 4, 0] rfl ?_
      exact s_X3_nextTell_j36 X Z hy v1 v2 v3 ((-2)) σ

set_option maxRecDepth 100000 in
theorem m_X3_nextTell {y : LY} {l : Launch}  {a0 : Int32} {a1 : Int32} {a2 : Int32} {σ : ST} {a : (Int32 × ST)} (h : T_X3_nextTell a0 a1 a2 σ = some a) : MU y l yX3_nextTell cX3_nextTell 10 (some .int) (rmd 9) [.ref (ad y 13), .int a0, .int a1, .int a2] σ (xI a) := by
  refine MU.of (φ := xI) h (by decide +kernel) rfl (fun E X Z hy => ?_)
  have X : CX y l E cX3_nextTell 10 RX3 (rmd 9) := X
  show WW y l E 10 _ 0 [(0, .ref (ad y 13)), (1, .int a0), (2, .int a1), (3, .int a2)] [] σ (T_X3_nextTell a0 a1 a2 σ)
  unfold T_X3_nextTell
  refine r_aload_n (pc := 0) X dX3_nextTell_0 0 rfl rfl ?_
  refine r_iload_n (pc := 1) X dX3_nextTell_1 1 rfl rfl ?_
  refine r_callvp (pc := 2) X dX3_nextTell_2 cf_X3_isBearer ml_X3_91 (rf rfl rfl) hy oc_13.1 hc_3 (fun b hb => m_X3_isBearer hb) rfl rfl (Nat.le_of_ble_eq_true rfl) (fun x1 => ?_)
  refine r_if_ne (pc := 5) (tgt := 12) X dX3_nextTell_5 (by decide) ?_ ?_
  · refine r_iload_n (pc := 12) X dX3_nextTell_12 2 rfl rfl ?_
    refine r_callsp (pc := 13) X dX3_nextTell_13 cf_X3_notHours ml_X3_235 (rf rfl rfl) hy (fun b hb => m_X3_notHours hb) rfl rfl (Nat.le_of_ble_eq_true rfl) (fun x3 => ?_)
    exact s_X3_nextTell_j16 X Z hy a0 a1 a2 x3 σ
  · refine r_iconst (pc := 8) X dX3_nextTell_8 kc_m1 ?_
    refine r_goto (pc := 9) (tgt := 16) X dX3_nextTell_9 (by decide) ?_
    exact s_X3_nextTell_j16 X Z hy a0 a1 a2 ((-1)) σ

set_option maxRecDepth 100000 in
theorem m_X3_above {y : LY} {l : Launch}  {a0 : Int32} {σ : ST} {a : Int32} (h : T_X3_above σ a0 = some a) : MU y l yX3_above cX3_above 2 (some .int) (rmd 3) [.ref (ad y 13), .int a0] σ (xp σ a) := by
  refine MU.of (φ := xp σ) h (by decide +kernel) rfl (fun E X Z hy => ?_)
  have X : CX y l E cX3_above 2 RX3 (rmd 3) := X
  show WW y l E 2 _ 0 [(0, .ref (ad y 13)), (1, .int a0)] [] σ (T_X3_above σ a0)
  unfold T_X3_above
  refine r_aload_n (pc := 0) X dX3_above_0 0 rfl rfl ?_
  refine r_geta (pc := 1) X dX3_above_1 fl_X3_37 oc_13 (by decide) ?_
  refine r_iload_n (pc := 4) X dX3_above_4 1 rfl rfl ?_
  refine r_iald (pc := 5) X dX3_above_5 ar_13_9 (fun x1 => ?_)
  refine r_bipush (pc := 6) X dX3_above_6 kb_9 ?_
  refine r_icmp_ne (pc := 8) (tgt := 15) X dX3_above_8 (by decide) ?_ ?_
  · refine r_aload_n (pc := 15) X dX3_above_15 0 rfl rfl ?_
    refine r_aload_n (pc := 16) X dX3_above_16 0 rfl rfl ?_
    refine r_geta (pc := 17) X dX3_above_17 fl_X3_37 oc_13 (by decide) ?_
    refine r_iload_n (pc := 20) X dX3_above_20 1 rfl rfl ?_
    refine r_iald (pc := 21) X dX3_above_21 ar_13_9 (fun x2 => ?_)
    refine r_callvp (pc := 22) X dX3_above_22 cf_X3_pullOf ml_X3_198 (rf rfl rfl) hy oc_13.1 hc_3 (fun b hb => m_X3_pullOf hb) rfl rfl (Nat.le_of_ble_eq_true rfl) (fun x3 => ?_)
    refine r_aload_n (pc := 25) X dX3_above_25 0 rfl rfl ?_
    refine r_geta (pc := 26) X dX3_above_26 fl_X3_28 oc_13 (by decide) ?_
    refine r_iload_n (pc := 29) X dX3_above_29 1 rfl rfl ?_
    refine r_iald (pc := 30) X dX3_above_30 ar_13_6 (fun x5 => ?_)
    refine r_isub (pc := 31) X dX3_above_31 ?_
    exact r_iret (pc := 32) X Z dX3_above_32 rfl
  · refine r_iconst (pc := 11) X dX3_above_11 kc_0 ?_
    refine r_goto (pc := 12) (tgt := 32) X dX3_above_12 (by decide) ?_
    exact r_iret (pc := 32) X Z dX3_above_32 rfl

set_option maxRecDepth 100000 in
theorem s_X3_goesArm_L103 {y : LY} {l : Launch} {E : ET} (X : CX y l E cX3_goesArm 7 RX3 (rmd 4)) (Z : ZX E none) (hy : y.1 ≤ (eS E).heap.size)     (n : Nat) : ∀ (v1 : Int32) (v2 : Int32) (v5 : Int32) (v6 : Int32) (σ : ST), WW y l E 7 (fun a => QM y E (xV a)) 103 [(0, .ref (ad y 13)), (1, .int v1), (2, .int v2), (5, .int v5), (6, .int v6)] [] σ (T_X3_goesArm_L103  n v1 v2 v5 v6 σ) := by
  induction n with
  | zero => intros; exact r_none rfl
  | succ n ih =>
    intro v1 v2 v5 v6 σ
    unfold T_X3_goesArm_L103
    refine r_iload (pc := 103) X dX3_goesArm_103 4 rfl ?_
    refine r_if_le (pc := 105) (tgt := 131) X dX3_goesArm_105 (by decide) ?_ ?_
    · refine r_aload_n (pc := 131) X dX3_goesArm_131 0 rfl rfl ?_
      refine r_geta (pc := 132) X dX3_goesArm_132 fl_X3_34 oc_13 (by decide) ?_
      refine r_iload_n (pc := 135) X dX3_goesArm_135 2 rfl rfl ?_
      refine r_aload_n (pc := 136) X dX3_goesArm_136 0 rfl rfl ?_
      refine r_geta (pc := 137) X dX3_goesArm_137 fl_X3_34 oc_13 (by decide) ?_
      refine r_iload_n (pc := 140) X dX3_goesArm_140 1 rfl rfl ?_
      refine r_iald (pc := 141) X dX3_goesArm_141 ar_13_8 (fun x1 => ?_)
      refine r_iast (pc := 142) X dX3_goesArm_142 ar_13_8 (fun σ2 => ?_)
      exact r_vret (pc := 143) X Z dX3_goesArm_143 rfl
    · refine r_aload_n (pc := 108) X dX3_goesArm_108 0 rfl rfl ?_
      refine r_geta (pc := 109) X dX3_goesArm_109 fl_X3_34 oc_13 (by decide) ?_
      refine r_iload_n (pc := 112) X dX3_goesArm_112 1 rfl rfl ?_
      refine r_aload_n (pc := 113) X dX3_goesArm_113 0 rfl rfl ?_
      refine r_geta (pc := 114) X dX3_goesArm_114 fl_X3_34 oc_13 (by decide) ?_
      refine r_iload_n (pc := 117) X dX3_goesArm_117 1 rfl rfl ?_
      refine r_iald (pc := 118) X dX3_goesArm_118 ar_13_8 (fun x3 => ?_)
      refine r_iload (pc := 119) X dX3_goesArm_119 3 rfl ?_
      refine r_callsp (pc := 121) X dX3_goesArm_121 cf_X3_towards ml_X3_205 (rf rfl rfl) hy (fun b hb => m_X3_towards hb) rfl rfl (Nat.le_of_ble_eq_true rfl) (fun x4 => ?_)
      refine r_iast (pc := 124) X dX3_goesArm_124 ar_13_8 (fun σ6 => ?_)
      refine r_iinc (pc := 125) (lv' := [(0, .ref _), (1, .int _), (2, .int _), (5, .int _)]) X dX3_goesArm_125 4 rfl (congrArg (fun z => v6 + z) kc_m1) (by decide) rfl (fun x7 => ?_)
      refine r_goto (pc := 128) (tgt := 103) X dX3_goesArm_128 (by decide) ?_
      refine r_sub [1, 2, 3, 4, 0] rfl ?_
      exact ih v1 v2 v5 x7 σ6

set_option maxRecDepth 100000 in
theorem s_X3_goesArm_j74 {y : LY} {l : Launch} {E : ET} (X : CX y l E cX3_goesArm 7 RX3 (rmd 4)) (Z : ZX E none) (hy : y.1 ≤ (eS E).heap.size)     (v1 : Int32) (v2 : Int32) (v3 : Int32) (v4 : Int32) (s0 : Int32) (σ : ST) : WW y l E 7 (fun a => QM y E (xV a)) 74 [(0, .ref (ad y 13)), (1, .int v1), (2, .int v2), (3, .int v3), (4, .int v4)] [.int s0] σ (T_X3_goesArm_j74   v1 v2 v3 v4 s0 σ) := by
  unfold T_X3_goesArm_j74
  refine r_istore (pc := 74) (lv' := [(5, .int _), (0, .ref _), (1, .int _), (2, .int _), (3, .int _), (4, .int _)]) X dX3_goesArm_74 (by decide) rfl ?_
  refine r_iload (pc := 76) X dX3_goesArm_76 5 rfl ?_
  refine r_if_eq (pc := 78) (tgt := 100) X dX3_goesArm_78 (by decide) ?_ ?_
  · refine r_iconst (pc := 100) X dX3_goesArm_100 kc_1 ?_
    refine r_istore (pc := 101) (lv' := [(6, .int _), (5, .int _), (0, .ref _), (1, .int _), (2, .int _), (3, .int _), (4, .int _)]) X dX3_goesArm_101 (by decide) rfl ?_
    refine r_sub [2, 3, 4, 1, 0] rfl ?_
    exact s_X3_goesArm_L103 X Z hy FU v1 v2 s0 1 σ
  · refine r_aload_n (pc := 81) X dX3_goesArm_81 1 rfl rfl ?_
    refine r_geta (pc := 82) X dX3_goesArm_82 fl_X3_13 oc_13 (by decide) ?_
    refine r_aload_n (pc := 85) X dX3_goesArm_85 1 rfl rfl ?_
    refine r_geta (pc := 86) X dX3_goesArm_86 fl_X3_37 oc_13 (by decide) ?_
    refine r_iload_n (pc := 89) X dX3_goesArm_89 4 rfl rfl ?_
    refine r_iald (pc := 90) X dX3_goesArm_90 ar_13_9 (fun x1 => ?_)
    refine r_iald (pc := 91) X dX3_goesArm_91 ar_13_1 (fun x2 => ?_)
    refine r_iconst (pc := 92) X dX3_goesArm_92 kc_5 ?_
    refine r_icmp_ne (pc := 93) (tgt := 100) X dX3_goesArm_93 (by decide) ?_ ?_
    · refine r_iconst (pc := 100) X dX3_goesArm_100 kc_1 ?_
      refine r_istore (pc := 101) (lv' := [(6, .int _), (5, .int _), (0, .ref _), (1, .int _), (2, .int _), (3, .int _), (4, .int _)]) X dX3_goesArm_101 (by decide) rfl ?_
      refine r_sub [2, 3, 4, 1, 0] rfl ?_
      exact s_X3_goesArm_L103 X Z hy FU v1 v2 s0 1 σ
    · refine r_iconst (pc := 96) X dX3_goesArm_96 kc_2 ?_
      refine r_goto (pc := 97) (tgt := 101) X dX3_goesArm_97 (by decide) ?_
      refine r_istore (pc := 101) (lv' := [(6, .int _), (5, .int _), (0, .ref _), (1, .int _), (2, .int _), (3, .int _), (4, .int _)]) X dX3_goesArm_101 (by decide) rfl ?_
      refine r_sub [2, 3, 4, 1, 0] rfl ?_
      exact s_X3_goesArm_L103 X Z hy FU v1 v2 s0 2 σ

set_option maxRecDepth 100000 in
theorem s_X3_goesArm_j42 {y : LY} {l : Launch} {E : ET} (X : CX y l E cX3_goesArm 7 RX3 (rmd 4)) (Z : ZX E none) (hy : y.1 ≤ (eS E).heap.size)     (v1 : Int32) (v2 : Int32) (v3 : Int32) (s0 : Int32) (σ : ST) : WW y l E 7 (fun a => QM y E (xV a)) 42 [(0, .ref (ad y 13)), (1, .int v1), (2, .int v2), (3, .int v3)] [.int s0] σ (T_X3_goesArm_j42   v1 v2 v3 s0 σ) := by
  unfold T_X3_goesArm_j42
  refine r_istore (pc := 42) (lv' := [(4, .int _), (0, .ref _), (1, .int _), (2, .int _), (3, .int _)]) X dX3_goesArm_42 (by decide) rfl ?_
  refine r_iload (pc := 44) X dX3_goesArm_44 0 rfl ?_
  refine r_if_eq (pc := 46) (tgt := 68) X dX3_goesArm_46 (by decide) ?_ ?_
  · refine r_aload_n (pc := 68) X dX3_goesArm_68 1 rfl rfl ?_
    refine r_geta (pc := 69) X dX3_goesArm_69 fl_X3_31 oc_13 (by decide) ?_
    refine r_iload_n (pc := 72) X dX3_goesArm_72 2 rfl rfl ?_
    refine r_iald (pc := 73) X dX3_goesArm_73 ar_13_7 (fun x1 => ?_)
    refine r_sub [1, 2, 3, 4, 0] rfl ?_
    exact s_X3_goesArm_j74 X Z hy v1 v2 v3 s0 x1 σ
  · refine r_aload_n (pc := 49) X dX3_goesArm_49 1 rfl rfl ?_
    refine r_aload_n (pc := 50) X dX3_goesArm_50 1 rfl rfl ?_
    refine r_geta (pc := 51) X dX3_goesArm_51 fl_X3_37 oc_13 (by decide) ?_
    refine r_iload_n (pc := 54) X dX3_goesArm_54 4 rfl rfl ?_
    refine r_iald (pc := 55) X dX3_goesArm_55 ar_13_9 (fun x2 => ?_)
    refine r_aload_n (pc := 56) X dX3_goesArm_56 1 rfl rfl ?_
    refine r_geta (pc := 57) X dX3_goesArm_57 fl_X3_31 oc_13 (by decide) ?_
    refine r_iload_n (pc := 60) X dX3_goesArm_60 4 rfl rfl ?_
    refine r_iald (pc := 61) X dX3_goesArm_61 ar_13_7 (fun x3 => ?_)
    refine r_callvp (pc := 62) X dX3_goesArm_62 cf_X3_goalOf ml_X3_201 (rf rfl rfl) hy oc_13.1 hc_3 (fun b hb => m_X3_goalOf hb) rfl rfl (Nat.le_of_ble_eq_true rfl) (fun x4 => ?_)
    refine r_goto (pc := 65) (tgt := 74) X dX3_goesArm_65 (by decide) ?_
    refine r_sub [1, 2, 3, 4, 0] rfl ?_
    exact s_X3_goesArm_j74 X Z hy v1 v2 v3 s0 x4 σ

set_option maxRecDepth 100000 in
theorem s_X3_goesArm_j28 {y : LY} {l : Launch} {E : ET} (X : CX y l E cX3_goesArm 7 RX3 (rmd 4)) (Z : ZX E none) (hy : y.1 ≤ (eS E).heap.size)     (v1 : Int32) (v2 : Int32) (s0 : Int32) (σ : ST) : WW y l E 7 (fun a => QM y E (xV a)) 28 [(0, .ref (ad y 13)), (1, .int v1), (2, .int v2)] [.int s0] σ (T_X3_goesArm_j28   v1 v2 s0 σ) := by
  unfold T_X3_goesArm_j28
  refine r_istore_n (pc := 28) (lv' := [(3, .int _), (0, .ref _), (1, .int _), (2, .int _)]) X dX3_goesArm_28 rfl (by decide) rfl ?_
  refine r_aload_n (pc := 29) X dX3_goesArm_29 1 rfl rfl ?_
  refine r_iload_n (pc := 30) X dX3_goesArm_30 0 rfl rfl ?_
  refine r_callvp (pc := 31) X dX3_goesArm_31 cf_X3_above ml_X3_330 (rf rfl rfl) hy oc_13.1 hc_3 (fun b hb => m_X3_above hb) rfl rfl (Nat.le_of_ble_eq_true rfl) (fun x1 => ?_)
  refine r_if_le (pc := 34) (tgt := 41) X dX3_goesArm_34 (by decide) ?_ ?_
  · refine r_iconst (pc := 41) X dX3_goesArm_41 kc_0 ?_
    refine r_sub [1, 2, 3, 0] rfl ?_
    exact s_X3_goesArm_j42 X Z hy v1 v2 s0 0 σ
  · refine r_iconst (pc := 37) X dX3_goesArm_37 kc_1 ?_
    refine r_goto (pc := 38) (tgt := 42) X dX3_goesArm_38 (by decide) ?_
    refine r_sub [1, 2, 3, 0] rfl ?_
    exact s_X3_goesArm_j42 X Z hy v1 v2 s0 1 σ

set_option maxRecDepth 100000 in
theorem m_X3_goesArm {y : LY} {l : Launch}  {a0 : Int32} {a1 : Int32} {σ : ST} {a : ST} (h : T_X3_goesArm a0 a1 σ = some a) : MU y l yX3_goesArm cX3_goesArm 7 none (rmd 4) [.ref (ad y 13), .int a0, .int a1] σ (xV a) := by
  refine MU.of (φ := xV) h (by decide +kernel) rfl (fun E X Z hy => ?_)
  have X : CX y l E cX3_goesArm 7 RX3 (rmd 4) := X
  show WW y l E 7 _ 0 [(0, .ref (ad y 13)), (1, .int a0), (2, .int a1)] [] σ (T_X3_goesArm a0 a1 σ)
  unfold T_X3_goesArm
  refine r_aload_n (pc := 0) X dX3_goesArm_0 0 rfl rfl ?_
  refine r_dup (pc := 1) X dX3_goesArm_1 rfl ?_
  refine r_geti (pc := 2) X dX3_goesArm_2 fl_X3_127 oc_13 rfl (fun x1 => ?_)
  refine r_iconst (pc := 5) X dX3_goesArm_5 kc_1 ?_
  refine r_iadd (pc := 6) X dX3_goesArm_6 ?_
  refine r_puti (pc := 7) X dX3_goesArm_7 fl_X3_127 fw_3_13 oc_13 rfl (fun σ2 => ?_)
  refine r_aload_n (pc := 10) X dX3_goesArm_10 0 rfl rfl ?_
  refine r_iload_n (pc := 11) X dX3_goesArm_11 2 rfl rfl ?_
  refine r_callvp (pc := 12) X dX3_goesArm_12 cf_X3_above ml_X3_330 (rf rfl rfl) hy oc_13.1 hc_3 (fun b hb => m_X3_above hb) rfl rfl (Nat.le_of_ble_eq_true rfl) (fun x3 => ?_)
  refine r_aload_n (pc := 15) X dX3_goesArm_15 0 rfl rfl ?_
  refine r_iload_n (pc := 16) X dX3_goesArm_16 1 rfl rfl ?_
  refine r_callvp (pc := 17) X dX3_goesArm_17 cf_X3_above ml_X3_330 (rf rfl rfl) hy oc_13.1 hc_3 (fun b hb => m_X3_above hb) rfl rfl (Nat.le_of_ble_eq_true rfl) (fun x5 => ?_)
  refine r_icmp_le (pc := 20) (tgt := 27) X dX3_goesArm_20 (by decide) ?_ ?_
  · refine r_iload_n (pc := 27) X dX3_goesArm_27 1 rfl rfl ?_
    exact s_X3_goesArm_j28 X Z hy a0 a1 a0 σ2
  · refine r_iload_n (pc := 23) X dX3_goesArm_23 2 rfl rfl ?_
    refine r_goto (pc := 24) (tgt := 28) X dX3_goesArm_24 (by decide) ?_
    exact s_X3_goesArm_j28 X Z hy a0 a1 a1 σ2

set_option maxRecDepth 100000 in
theorem s_X3_arm_L50 {y : LY} {l : Launch} {E : ET} (X : CX y l E cX3_arm 6 RX3 (rmd 5)) (Z : ZX E (some .int)) (hy : y.1 ≤ (eS E).heap.size)     (n : Nat) : ∀ (v1 : Int32) (v2 : Int32) (v3 : Int32) (v5 : Int32) (σ : ST), WW y l E 6 (fun a => QM y E (xI a)) 50 [(0, .ref (ad y 13)), (1, .int v1), (2, .int v2), (3, .int v3), (5, .int v5)] [] σ (T_X3_arm_L50  n v1 v2 v3 v5 σ) := by
  induction n with
  | zero => intros; exact r_none rfl
  | succ n ih =>
    intro v1 v2 v3 v5 σ
    unfold T_X3_arm_L50
    refine r_iload (pc := 50) X dX3_arm_50 4 rfl ?_
    refine r_iload_n (pc := 52) X dX3_arm_52 3 rfl rfl ?_
    refine r_icmp_ge (pc := 53) (tgt := 68) X dX3_arm_53 (by decide) ?_ ?_
    · refine r_aload_n (pc := 68) X dX3_arm_68 0 rfl rfl ?_
      refine r_geta (pc := 69) X dX3_arm_69 fl_X3_34 oc_13 (by decide) ?_
      refine r_iload_n (pc := 72) X dX3_arm_72 1 rfl rfl ?_
      refine r_iald (pc := 73) X dX3_arm_73 ar_13_8 (fun x1 => ?_)
      refine r_istore (pc := 74) (lv' := [(5, .int _), (0, .ref _), (1, .int _), (2, .int _), (3, .int _)]) X dX3_arm_74 (by decide) rfl ?_
      refine r_aload_n (pc := 76) X dX3_arm_76 1 rfl rfl ?_
      refine r_callvV (pc := 77) X dX3_arm_77 cf_X3_forgets ml_X3_241 (rf rfl rfl) hy oc_13.1 hc_3 (fun b hb => m_X3_forgets hb) rfl rfl (Nat.le_of_ble_eq_true rfl) (fun σ3 => ?_)
      refine r_iload (pc := 80) X dX3_arm_80 0 rfl ?_
      exact r_iret (pc := 82) X Z dX3_arm_82 rfl
    · refine r_aload_n (pc := 56) X dX3_arm_56 0 rfl rfl ?_
      refine r_iload_n (pc := 57) X dX3_arm_57 1 rfl rfl ?_
      refine r_iload_n (pc := 58) X dX3_arm_58 2 rfl rfl ?_
      refine r_callvV (pc := 59) X dX3_arm_59 cf_X3_goesArm ml_X3_333 (rf rfl rfl) hy oc_13.1 hc_3 (fun b hb => m_X3_goesArm hb) rfl rfl (Nat.le_of_ble_eq_true rfl) (fun σ5 => ?_)
      refine r_iinc (pc := 62) (lv' := [(0, .ref _), (1, .int _), (2, .int _), (3, .int _)]) X dX3_arm_62 4 rfl (congrArg (fun z => v5 + z) kc_1) (by decide) rfl (fun x6 => ?_)
      refine r_goto (pc := 65) (tgt := 50) X dX3_arm_65 (by decide) ?_
      refine r_sub [1, 2, 3, 4, 0] rfl ?_
      exact ih v1 v2 v3 x6 σ5

set_option maxRecDepth 100000 in
theorem s_X3_arm_j17 {y : LY} {l : Launch} {E : ET} (X : CX y l E cX3_arm 6 RX3 (rmd 5)) (Z : ZX E (some .int)) (hy : y.1 ≤ (eS E).heap.size)     (v1 : Int32) (v2 : Int32) (v3 : Int32) (s0 : Int32) (σ : ST) : WW y l E 6 (fun a => QM y E (xI a)) 17 [(0, .ref (ad y 13)), (1, .int v1), (2, .int v2), (3, .int v3)] [.int s0] σ (T_X3_arm_j17   v1 v2 v3 s0 σ) := by
  unfold T_X3_arm_j17
  refine r_istore (pc := 17) (lv' := [(4, .int _), (0, .ref _), (1, .int _), (2, .int _), (3, .int _)]) X dX3_arm_17 (by decide) rfl ?_
  refine r_iload (pc := 19) X dX3_arm_19 0 rfl ?_
  refine r_if_eq (pc := 21) (tgt := 31) X dX3_arm_21 (by decide) ?_ ?_
  · refine r_aload_n (pc := 31) X dX3_arm_31 1 rfl rfl ?_
    refine r_callvV (pc := 32) X dX3_arm_32 cf_X3_thinks ml_X3_238 (rf rfl rfl) hy oc_13.1 hc_3 (fun b hb => m_X3_thinks hb) rfl rfl (Nat.le_of_ble_eq_true rfl) (fun σ2 => ?_)
    refine r_aload_n (pc := 35) X dX3_arm_35 1 rfl rfl ?_
    refine r_geta (pc := 36) X dX3_arm_36 fl_X3_34 oc_13 (by decide) ?_
    refine r_iload_n (pc := 39) X dX3_arm_39 3 rfl rfl ?_
    refine r_aload_n (pc := 40) X dX3_arm_40 1 rfl rfl ?_
    refine r_geta (pc := 41) X dX3_arm_41 fl_X3_34 oc_13 (by decide) ?_
    refine r_iload_n (pc := 44) X dX3_arm_44 2 rfl rfl ?_
    refine r_iald (pc := 45) X dX3_arm_45 ar_13_8 (fun x3 => ?_)
    refine r_iast (pc := 46) X dX3_arm_46 ar_13_8 (fun σ4 => ?_)
    refine r_iconst (pc := 47) X dX3_arm_47 kc_0 ?_
    refine r_istore (pc := 48) (lv' := [(5, .int _), (4, .int _), (0, .ref _), (1, .int _), (2, .int _), (3, .int _)]) X dX3_arm_48 (by decide) rfl ?_
    refine r_sub [2, 3, 4, 5, 0] rfl ?_
    exact s_X3_arm_L50 X Z hy FU v1 v2 v3 0 σ4
  · refine r_aload_n (pc := 24) X dX3_arm_24 1 rfl rfl ?_
    refine r_iload (pc := 25) X dX3_arm_25 0 rfl ?_
    refine r_callvI (pc := 27) X dX3_arm_27 cf_X3_no ml_X3_102 (rf rfl rfl) hy oc_13.1 hc_3 (fun b hb => m_X3_no hb) rfl rfl (Nat.le_of_ble_eq_true rfl) (fun x5 σ6 => ?_)
    exact r_iret (pc := 30) X Z dX3_arm_30 rfl

set_option maxRecDepth 100000 in
theorem m_X3_arm {y : LY} {l : Launch}  {a0 : Int32} {a1 : Int32} {a2 : Int32} {σ : ST} {a : (Int32 × ST)} (h : T_X3_arm a0 a1 a2 σ = some a) : MU y l yX3_arm cX3_arm 6 (some .int) (rmd 5) [.ref (ad y 13), .int a0, .int a1, .int a2] σ (xI a) := by
  refine MU.of (φ := xI) h (by decide +kernel) rfl (fun E X Z hy => ?_)
  have X : CX y l E cX3_arm 6 RX3 (rmd 5) := X
  show WW y l E 6 _ 0 [(0, .ref (ad y 13)), (1, .int a0), (2, .int a1), (3, .int a2)] [] σ (T_X3_arm a0 a1 a2 σ)
  unfold T_X3_arm
  refine r_aload_n (pc := 0) X dX3_arm_0 0 rfl rfl ?_
  refine r_iload_n (pc := 1) X dX3_arm_1 1 rfl rfl ?_
  refine r_iload_n (pc := 2) X dX3_arm_2 2 rfl rfl ?_
  refine r_callvp (pc := 3) X dX3_arm_3 cf_X3_areTwo ml_X3_244 (rf rfl rfl) hy oc_13.1 hc_3 (fun b hb => m_X3_areTwo hb) rfl rfl (Nat.le_of_ble_eq_true rfl) (fun x1 => ?_)
  refine r_if_ne (pc := 6) (tgt := 13) X dX3_arm_6 (by decide) ?_ ?_
  · refine r_iload_n (pc := 13) X dX3_arm_13 3 rfl rfl ?_
    refine r_callsp (pc := 14) X dX3_arm_14 cf_X3_notHours ml_X3_235 (rf rfl rfl) hy (fun b hb => m_X3_notHours hb) rfl rfl (Nat.le_of_ble_eq_true rfl) (fun x3 => ?_)
    exact s_X3_arm_j17 X Z hy a0 a1 a2 x3 σ
  · refine r_iconst (pc := 9) X dX3_arm_9 kc_m1 ?_
    refine r_goto (pc := 10) (tgt := 17) X dX3_arm_10 (by decide) ?_
    exact s_X3_arm_j17 X Z hy a0 a1 a2 ((-1)) σ

set_option maxRecDepth 100000 in
theorem s_X3_divisor_L6 {y : LY} {l : Launch} {E : ET} (X : CX y l E cX3_divisor 10 RX3 (rmd 0)) (Z : ZX E (some .long)) (hy : y.1 ≤ (eS E).heap.size)  {σ : ST}   (n : Nat) : ∀ (v4 : Int64) (v6 : Int64), WW y l E 10 (fun a => QM y E (xq σ a)) 6 [(4, .long v4), (6, .long v6)] [] σ (T_X3_divisor_L6 σ n v4 v6) := by
  induction n with
  | zero => intros; exact r_none rfl
  | succ n ih =>
    intro v4 v6
    unfold T_X3_divisor_L6
    refine r_lload (pc := 6) X dX3_divisor_6 1 rfl ?_
    refine r_lconst (pc := 8) X dX3_divisor_8 (by decide : Int64.ofNat _ = 0) ?_
    refine r_lcmp (pc := 9) X dX3_divisor_9 ?_
    refine r_if_eq (pc := 10) (tgt := 31) X dX3_divisor_10 (by decide) ?_ ?_
    · refine r_lload (pc := 31) X dX3_divisor_31 0 rfl ?_
      exact r_lret (pc := 33) X Z dX3_divisor_33 rfl
    · refine r_lload (pc := 13) X dX3_divisor_13 0 rfl ?_
      refine r_lload (pc := 15) X dX3_divisor_15 1 rfl ?_
      refine r_lremz (pc := 17) X dX3_divisor_17 ?_
      refine r_vL (fun x1 => ?_)
      refine r_lstore (pc := 18) (lv' := [(8, .long _), (4, .long _), (6, .long _)]) X dX3_divisor_18 (by decide) rfl ?_
      refine r_lload (pc := 20) X dX3_divisor_20 2 rfl ?_
      refine r_lstore (pc := 22) (lv' := [(4, .long _), (8, .long _), (6, .long _)]) X dX3_divisor_22 (by decide) rfl ?_
      refine r_lload (pc := 24) X dX3_divisor_24 1 rfl ?_
      refine r_lstore (pc := 26) (lv' := [(6, .long _), (4, .long _), (8, .long _)]) X dX3_divisor_26 (by decide) rfl ?_
      refine r_goto (pc := 28) (tgt := 6) X dX3_divisor_28 (by decide) ?_
      refine r_sub [1, 0] rfl ?_
      exact ih v6 x1

set_option maxRecDepth 100000 in
theorem m_X3_divisor {y : LY} {l : Launch}  {a0 : Int64} {a1 : Int64} {σ : ST} {a : Int64} (h : T_X3_divisor σ a0 a1 = some a) : MU y l yX3_divisor cX3_divisor 10 (some .long) (rmd 0) [.long a0, .long a1] σ (xq σ a) := by
  refine MU.of (φ := xq σ) h (by decide +kernel) rfl (fun E X Z hy => ?_)
  have X : CX y l E cX3_divisor 10 RX3 (rmd 0) := X
  show WW y l E 10 _ 0 [(0, .long a0), (2, .long a1)] [] σ (T_X3_divisor σ a0 a1)
  unfold T_X3_divisor
  refine r_lload_n (pc := 0) X dX3_divisor_0 0 rfl rfl ?_
  refine r_lstore (pc := 1) (lv' := [(4, .long _), (0, .long _), (2, .long _)]) X dX3_divisor_1 (by decide) rfl ?_
  refine r_lload_n (pc := 3) X dX3_divisor_3 2 rfl rfl ?_
  refine r_lstore (pc := 4) (lv' := [(6, .long _), (4, .long _), (0, .long _), (2, .long _)]) X dX3_divisor_4 (by decide) rfl ?_
  refine r_sub [1, 0] rfl ?_
  exact s_X3_divisor_L6 X Z hy FU a0 a1

set_option maxRecDepth 100000 in
theorem s_X3_sleep_j177 {y : LY} {l : Launch} {E : ET} (X : CX y l E cX3_sleep 16 RX3 (rmd 6)) (Z : ZX E (some .long)) (hy : y.1 ≤ (eS E).heap.size)   {K119 : Int32 → Int32 → Int32 → Int32 → Int32 → Int64 → Int64 → Int32 → ST → Option (Int64 × ST)} {K137 : Int32 → Int32 → Int32 → Int32 → Int32 → Int64 → Int64 → Int32 → Int64 → Int32 → ST → Option (Int64 × ST)} (hK119 : ∀ (v1 : Int32) (v2 : Int32) (v3 : Int32) (v4 : Int32) (v5 : Int32) (v7 : Int64) (v9 : Int64) (v11 : Int32) (σ : ST), WW y l E 16 (fun a => QM y E (xJ a)) 119 [(0, .ref (ad y 13)), (1, .int v1), (2, .int v2), (3, .int v3), (4, .int v4), (5, .int v5), (7, .long v7), (9, .long v9), (11, .int v11)] [] σ (K119 v1 v2 v3 v4 v5 v7 v9 v11 σ)) (hK137 : ∀ (v1 : Int32) (v2 : Int32) (v3 : Int32) (v4 : Int32) (v5 : Int32) (v7 : Int64) (v9 : Int64) (v11 : Int32) (v12 : Int64) (v14 : Int32) (σ : ST), WW y l E 16 (fun a => QM y E (xJ a)) 137 [(0, .ref (ad y 13)), (1, .int v1), (2, .int v2), (3, .int v3), (4, .int v4), (5, .int v5), (7, .long v7), (9, .long v9), (11, .int v11), (12, .long v12), (14, .int v14)] [] σ (K137 v1 v2 v3 v4 v5 v7 v9 v11 v12 v14 σ)) (v1 : Int32) (v2 : Int32) (v3 : Int32) (v4 : Int32) (v5 : Int32) (v7 : Int64) (v9 : Int64) (v11 : Int32) (v14 : Int32) (v15 : Int32) (s0 : Int64) (s1 : Int64) (σ : ST) : WW y l E 16 (fun a => QM y E (xJ a)) 177 [(0, .ref (ad y 13)), (1, .int v1), (2, .int v2), (3, .int v3), (4, .int v4), (5, .int v5), (7, .long v7), (9, .long v9), (11, .int v11), (14, .int v14), (15, .int v15)] [.long s0, .long s1] σ (T_X3_sleep_j177 K119 K137  v1 v2 v3 v4 v5 v7 v9 v11 v14 v15 s0 s1 σ) := by
  unfold T_X3_sleep_j177
  refine r_lmul (pc := 177) X dX3_sleep_177 ?_
  refine r_vL (fun x1 => ?_)
  refine r_lstore (pc := 178) (lv' := [(12, .long _), (0, .ref _), (1, .int _), (2, .int _), (3, .int _), (4, .int _), (5, .int _), (7, .long _), (9, .long _), (11, .int _), (14, .int _), (15, .int _)]) X dX3_sleep_178 (by decide) rfl ?_
  refine r_aload_n (pc := 180) X dX3_sleep_180 1 rfl rfl ?_
  refine r_iload (pc := 181) X dX3_sleep_181 11 rfl ?_
  refine r_callvV (pc := 183) X dX3_sleep_183 cf_X3_goesHour ml_X3_130 (rf rfl rfl) hy oc_13.1 hc_3 (fun b hb => m_X3_goesHour hb) rfl rfl (Nat.le_of_ble_eq_true rfl) (fun σ3 => ?_)
  refine r_iinc (pc := 186) (lv' := [(12, .long _), (0, .ref _), (1, .int _), (2, .int _), (3, .int _), (4, .int _), (5, .int _), (7, .long _), (9, .long _), (11, .int _), (15, .int _)]) X dX3_sleep_186 10 rfl (congrArg (fun z => v14 + z) kc_1) (by decide) rfl (fun x4 => ?_)
  refine r_goto (pc := 189) (tgt := 137) X dX3_sleep_189 (by decide) ?_
  refine r_sub [2, 3, 4, 5, 6, 7, 8, 9, 10, 1, 0] rfl ?_
  exact hK137 v1 v2 v3 v4 v5 v7 v9 v11 x1 x4 σ3

set_option maxRecDepth 100000 in
theorem s_X3_sleep_j159 {y : LY} {l : Launch} {E : ET} (X : CX y l E cX3_sleep 16 RX3 (rmd 6)) (Z : ZX E (some .long)) (hy : y.1 ≤ (eS E).heap.size)   {K119 : Int32 → Int32 → Int32 → Int32 → Int32 → Int64 → Int64 → Int32 → ST → Option (Int64 × ST)} {K137 : Int32 → Int32 → Int32 → Int32 → Int32 → Int64 → Int64 → Int32 → Int64 → Int32 → ST → Option (Int64 × ST)} (hK119 : ∀ (v1 : Int32) (v2 : Int32) (v3 : Int32) (v4 : Int32) (v5 : Int32) (v7 : Int64) (v9 : Int64) (v11 : Int32) (σ : ST), WW y l E 16 (fun a => QM y E (xJ a)) 119 [(0, .ref (ad y 13)), (1, .int v1), (2, .int v2), (3, .int v3), (4, .int v4), (5, .int v5), (7, .long v7), (9, .long v9), (11, .int v11)] [] σ (K119 v1 v2 v3 v4 v5 v7 v9 v11 σ)) (hK137 : ∀ (v1 : Int32) (v2 : Int32) (v3 : Int32) (v4 : Int32) (v5 : Int32) (v7 : Int64) (v9 : Int64) (v11 : Int32) (v12 : Int64) (v14 : Int32) (σ : ST), WW y l E 16 (fun a => QM y E (xJ a)) 137 [(0, .ref (ad y 13)), (1, .int v1), (2, .int v2), (3, .int v3), (4, .int v4), (5, .int v5), (7, .long v7), (9, .long v9), (11, .int v11), (12, .long v12), (14, .int v14)] [] σ (K137 v1 v2 v3 v4 v5 v7 v9 v11 v12 v14 σ)) (v1 : Int32) (v2 : Int32) (v3 : Int32) (v4 : Int32) (v5 : Int32) (v7 : Int64) (v9 : Int64) (v11 : Int32) (v12 : Int64) (v14 : Int32) (s0 : Int32) (σ : ST) : WW y l E 16 (fun a => QM y E (xJ a)) 159 [(0, .ref (ad y 13)), (1, .int v1), (2, .int v2), (3, .int v3), (4, .int v4), (5, .int v5), (7, .long v7), (9, .long v9), (11, .int v11), (12, .long v12), (14, .int v14)] [.int s0] σ (T_X3_sleep_j159 K119 K137  v1 v2 v3 v4 v5 v7 v9 v11 v12 v14 s0 σ) := by
  unfold T_X3_sleep_j159
  refine r_istore (pc := 159) (lv' := [(15, .int _), (0, .ref _), (1, .int _), (2, .int _), (3, .int _), (4, .int _), (5, .int _), (7, .long _), (9, .long _), (11, .int _), (12, .long _), (14, .int _)]) X dX3_sleep_159 (by decide) rfl ?_
  refine r_lload (pc := 161) X dX3_sleep_161 10 rfl ?_
  refine r_iload (pc := 163) X dX3_sleep_163 0 rfl ?_
  refine r_if_eq (pc := 165) (tgt := 172) X dX3_sleep_165 (by decide) ?_ ?_
  · refine r_iload (pc := 172) X dX3_sleep_172 5 rfl ?_
    refine r_iconst (pc := 174) X dX3_sleep_174 kc_1 ?_
    refine r_isub (pc := 175) X dX3_sleep_175 ?_
    refine r_i2l (pc := 176) X dX3_sleep_176 ?_
    refine r_sub [1, 2, 3, 4, 5, 6, 7, 8, 9, 11, 0] rfl ?_
    exact s_X3_sleep_j177 X Z hy hK119 hK137 v1 v2 v3 v4 v5 v7 v9 v11 v14 s0 ((v4 - 1).toInt64) v12 σ
  · refine r_lconst (pc := 168) X dX3_sleep_168 (by decide : Int64.ofNat _ = 1) ?_
    refine r_goto (pc := 169) (tgt := 177) X dX3_sleep_169 (by decide) ?_
    refine r_sub [1, 2, 3, 4, 5, 6, 7, 8, 9, 11, 0] rfl ?_
    exact s_X3_sleep_j177 X Z hy hK119 hK137 v1 v2 v3 v4 v5 v7 v9 v11 v14 s0 1 v12 σ

set_option maxRecDepth 100000 in
theorem s_X3_sleep_j210 {y : LY} {l : Launch} {E : ET} (X : CX y l E cX3_sleep 16 RX3 (rmd 6)) (Z : ZX E (some .long)) (hy : y.1 ≤ (eS E).heap.size)   {K119 : Int32 → Int32 → Int32 → Int32 → Int32 → Int64 → Int64 → Int32 → ST → Option (Int64 × ST)} (hK119 : ∀ (v1 : Int32) (v2 : Int32) (v3 : Int32) (v4 : Int32) (v5 : Int32) (v7 : Int64) (v9 : Int64) (v11 : Int32) (σ : ST), WW y l E 16 (fun a => QM y E (xJ a)) 119 [(0, .ref (ad y 13)), (1, .int v1), (2, .int v2), (3, .int v3), (4, .int v4), (5, .int v5), (7, .long v7), (9, .long v9), (11, .int v11)] [] σ (K119 v1 v2 v3 v4 v5 v7 v9 v11 σ)) (v1 : Int32) (v2 : Int32) (v3 : Int32) (v4 : Int32) (v5 : Int32) (v9 : Int64) (v11 : Int32) (s0 : Int64) (s1 : Int64) (σ : ST) : WW y l E 16 (fun a => QM y E (xJ a)) 210 [(0, .ref (ad y 13)), (1, .int v1), (2, .int v2), (3, .int v3), (4, .int v4), (5, .int v5), (9, .long v9), (11, .int v11)] [.long s0, .long s1] σ (T_X3_sleep_j210 K119  v1 v2 v3 v4 v5 v9 v11 s0 s1 σ) := by
  unfold T_X3_sleep_j210
  refine r_ladd (pc := 210) X dX3_sleep_210 ?_
  refine r_vL (fun x1 => ?_)
  refine r_lstore (pc := 211) (lv' := [(7, .long _), (0, .ref _), (1, .int _), (2, .int _), (3, .int _), (4, .int _), (5, .int _), (9, .long _), (11, .int _)]) X dX3_sleep_211 (by decide) rfl ?_
  refine r_aload_n (pc := 213) X dX3_sleep_213 1 rfl rfl ?_
  refine r_callvV (pc := 214) X dX3_sleep_214 cf_X3_forgets ml_X3_241 (rf rfl rfl) hy oc_13.1 hc_3 (fun b hb => m_X3_forgets hb) rfl rfl (Nat.le_of_ble_eq_true rfl) (fun σ3 => ?_)
  refine r_iinc (pc := 217) (lv' := [(7, .long _), (0, .ref _), (1, .int _), (2, .int _), (3, .int _), (4, .int _), (5, .int _), (9, .long _)]) X dX3_sleep_217 8 rfl (congrArg (fun z => v11 + z) kc_1) (by decide) rfl (fun x4 => ?_)
  refine r_goto (pc := 220) (tgt := 119) X dX3_sleep_220 (by decide) ?_
  refine r_sub [2, 3, 4, 5, 6, 7, 1, 8, 0] rfl ?_
  exact hK119 v1 v2 v3 v4 v5 x1 v9 x4 σ3

set_option maxRecDepth 100000 in
theorem s_X3_sleep_L137 {y : LY} {l : Launch} {E : ET} (X : CX y l E cX3_sleep 16 RX3 (rmd 6)) (Z : ZX E (some .long)) (hy : y.1 ≤ (eS E).heap.size)   {K119 : Int32 → Int32 → Int32 → Int32 → Int32 → Int64 → Int64 → Int32 → ST → Option (Int64 × ST)} (hK119 : ∀ (v1 : Int32) (v2 : Int32) (v3 : Int32) (v4 : Int32) (v5 : Int32) (v7 : Int64) (v9 : Int64) (v11 : Int32) (σ : ST), WW y l E 16 (fun a => QM y E (xJ a)) 119 [(0, .ref (ad y 13)), (1, .int v1), (2, .int v2), (3, .int v3), (4, .int v4), (5, .int v5), (7, .long v7), (9, .long v9), (11, .int v11)] [] σ (K119 v1 v2 v3 v4 v5 v7 v9 v11 σ)) (n : Nat) : ∀ (v1 : Int32) (v2 : Int32) (v3 : Int32) (v4 : Int32) (v5 : Int32) (v7 : Int64) (v9 : Int64) (v11 : Int32) (v12 : Int64) (v14 : Int32) (σ : ST), WW y l E 16 (fun a => QM y E (xJ a)) 137 [(0, .ref (ad y 13)), (1, .int v1), (2, .int v2), (3, .int v3), (4, .int v4), (5, .int v5), (7, .long v7), (9, .long v9), (11, .int v11), (12, .long v12), (14, .int v14)] [] σ (T_X3_sleep_L137 K119 n v1 v2 v3 v4 v5 v7 v9 v11 v12 v14 σ) := by
  induction n with
  | zero => intros; exact r_none rfl
  | succ n ih =>
    intro v1 v2 v3 v4 v5 v7 v9 v11 v12 v14 σ
    unfold T_X3_sleep_L137
    refine r_iload (pc := 137) X dX3_sleep_137 10 rfl ?_
    refine r_iload_n (pc := 139) X dX3_sleep_139 3 rfl rfl ?_
    refine r_icmp_ge (pc := 140) (tgt := 192) X dX3_sleep_140 (by decide) ?_ ?_
    · refine r_lload (pc := 192) X dX3_sleep_192 6 rfl ?_
      refine r_aload_n (pc := 194) X dX3_sleep_194 0 rfl rfl ?_
      refine r_geta (pc := 195) X dX3_sleep_195 fl_X3_34 oc_13 (by decide) ?_
      refine r_iload_n (pc := 198) X dX3_sleep_198 1 rfl rfl ?_
      refine r_iald (pc := 199) X dX3_sleep_199 ar_13_8 (fun x1 => ?_)
      refine r_iload_n (pc := 200) X dX3_sleep_200 2 rfl rfl ?_
      refine r_icmp_ne (pc := 201) (tgt := 209) X dX3_sleep_201 (by decide) ?_ ?_
      · refine r_lconst (pc := 209) X dX3_sleep_209 (by decide : Int64.ofNat _ = 0) ?_
        refine r_sub [0, 1, 2, 3, 4, 5, 7, 8] rfl ?_
        exact s_X3_sleep_j210 X Z hy hK119 v1 v2 v3 v4 v5 v9 v11 0 v7 σ
      · refine r_lload (pc := 204) X dX3_sleep_204 9 rfl ?_
        refine r_goto (pc := 206) (tgt := 210) X dX3_sleep_206 (by decide) ?_
        refine r_sub [0, 1, 2, 3, 4, 5, 7, 8] rfl ?_
        exact s_X3_sleep_j210 X Z hy hK119 v1 v2 v3 v4 v5 v9 v11 v12 v7 σ
    · refine r_iload (pc := 143) X dX3_sleep_143 8 rfl ?_
      refine r_iload (pc := 145) X dX3_sleep_145 10 rfl ?_
      refine r_ishr (pc := 147) X dX3_sleep_147 rfl ?_
      refine r_iconst (pc := 148) X dX3_sleep_148 kc_1 ?_
      refine r_iand (pc := 149) X dX3_sleep_149 ?_
      refine r_iconst (pc := 150) X dX3_sleep_150 kc_1 ?_
      refine r_icmp_ne (pc := 151) (tgt := 158) X dX3_sleep_151 (by decide) ?_ ?_
      · refine r_iconst (pc := 158) X dX3_sleep_158 kc_0 ?_
        exact s_X3_sleep_j159 X Z hy hK119 (fun v1 v2 v3 v4 v5 v7 v9 v11 v12 v14 s => ih v1 v2 v3 v4 v5 v7 v9 v11 v12 v14 s) v1 v2 v3 v4 v5 v7 v9 v11 v12 v14 0 σ
      · refine r_iconst (pc := 154) X dX3_sleep_154 kc_1 ?_
        refine r_goto (pc := 155) (tgt := 159) X dX3_sleep_155 (by decide) ?_
        exact s_X3_sleep_j159 X Z hy hK119 (fun v1 v2 v3 v4 v5 v7 v9 v11 v12 v14 s => ih v1 v2 v3 v4 v5 v7 v9 v11 v12 v14 s) v1 v2 v3 v4 v5 v7 v9 v11 v12 v14 1 σ

set_option maxRecDepth 100000 in
theorem s_X3_sleep_j235 {y : LY} {l : Launch} {E : ET} (X : CX y l E cX3_sleep 16 RX3 (rmd 6)) (Z : ZX E (some .long)) (hy : y.1 ≤ (eS E).heap.size)     (v7 : Int64) (v9 : Int64) (s0 : Int64) (σ : ST) : WW y l E 16 (fun a => QM y E (xJ a)) 235 [(7, .long v7), (9, .long v9)] [.long s0] σ (T_X3_sleep_j235   v7 v9 s0 σ) := by
  unfold T_X3_sleep_j235
  refine r_lload (pc := 235) X dX3_sleep_235 0 rfl ?_
  refine r_lload (pc := 237) X dX3_sleep_237 1 rfl ?_
  refine r_callsq (pc := 239) X dX3_sleep_239 cf_X3_divisor ml_X3_340 (rf rfl rfl) hy (fun b hb => m_X3_divisor hb) rfl rfl (Nat.le_of_ble_eq_true rfl) (fun x1 => ?_)
  refine r_ldivz (pc := 242) X dX3_sleep_242 ?_
  exact r_lret (pc := 243) X Z dX3_sleep_243 rfl

set_option maxRecDepth 100000 in
theorem s_X3_sleep_L119 {y : LY} {l : Launch} {E : ET} (X : CX y l E cX3_sleep 16 RX3 (rmd 6)) (Z : ZX E (some .long)) (hy : y.1 ≤ (eS E).heap.size)     (n : Nat) : ∀ (v1 : Int32) (v2 : Int32) (v3 : Int32) (v4 : Int32) (v5 : Int32) (v7 : Int64) (v9 : Int64) (v11 : Int32) (σ : ST), WW y l E 16 (fun a => QM y E (xJ a)) 119 [(0, .ref (ad y 13)), (1, .int v1), (2, .int v2), (3, .int v3), (4, .int v4), (5, .int v5), (7, .long v7), (9, .long v9), (11, .int v11)] [] σ (T_X3_sleep_L119  n v1 v2 v3 v4 v5 v7 v9 v11 σ) := by
  induction n with
  | zero => intros; exact r_none rfl
  | succ n ih =>
    intro v1 v2 v3 v4 v5 v7 v9 v11 σ
    unfold T_X3_sleep_L119
    refine r_iload (pc := 119) X dX3_sleep_119 8 rfl ?_
    refine r_iconst (pc := 121) X dX3_sleep_121 kc_1 ?_
    refine r_iload_n (pc := 122) X dX3_sleep_122 3 rfl rfl ?_
    refine r_ishl (pc := 123) X dX3_sleep_123 rfl ?_
    refine r_icmp_ge (pc := 124) (tgt := 223) X dX3_sleep_124 (by decide) ?_ ?_
    · refine r_iload (pc := 223) X dX3_sleep_223 5 rfl ?_
      refine r_if_ne (pc := 225) (tgt := 233) X dX3_sleep_225 (by decide) ?_ ?_
      · refine r_lload (pc := 233) X dX3_sleep_233 7 rfl ?_
        refine r_sub [6, 7] rfl ?_
        exact s_X3_sleep_j235 X Z hy v7 v9 v9 σ
      · refine r_lload (pc := 228) X dX3_sleep_228 6 rfl ?_
        refine r_goto (pc := 230) (tgt := 235) X dX3_sleep_230 (by decide) ?_
        refine r_sub [6, 7] rfl ?_
        exact s_X3_sleep_j235 X Z hy v7 v9 v7 σ
    · refine r_aload_n (pc := 127) X dX3_sleep_127 0 rfl rfl ?_
      refine r_callvV (pc := 128) X dX3_sleep_128 cf_X3_thinks ml_X3_238 (rf rfl rfl) hy oc_13.1 hc_3 (fun b hb => m_X3_thinks hb) rfl rfl (Nat.le_of_ble_eq_true rfl) (fun σ2 => ?_)
      refine r_lconst (pc := 131) X dX3_sleep_131 (by decide : Int64.ofNat _ = 1) ?_
      refine r_lstore (pc := 132) (lv' := [(12, .long _), (0, .ref _), (1, .int _), (2, .int _), (3, .int _), (4, .int _), (5, .int _), (7, .long _), (9, .long _), (11, .int _)]) X dX3_sleep_132 (by decide) rfl ?_
      refine r_iconst (pc := 134) X dX3_sleep_134 kc_0 ?_
      refine r_istore (pc := 135) (lv' := [(14, .int _), (12, .long _), (0, .ref _), (1, .int _), (2, .int _), (3, .int _), (4, .int _), (5, .int _), (7, .long _), (9, .long _), (11, .int _)]) X dX3_sleep_135 (by decide) rfl ?_
      refine r_sub [2, 3, 4, 5, 6, 7, 8, 9, 10, 1, 0] rfl ?_
      exact s_X3_sleep_L137 X Z hy (fun v1 v2 v3 v4 v5 v7 v9 v11 s => ih v1 v2 v3 v4 v5 v7 v9 v11 s) FU v1 v2 v3 v4 v5 v7 v9 v11 1 0 σ2

set_option maxRecDepth 100000 in
theorem s_X3_sleep_L96 {y : LY} {l : Launch} {E : ET} (X : CX y l E cX3_sleep 16 RX3 (rmd 6)) (Z : ZX E (some .long)) (hy : y.1 ≤ (eS E).heap.size)     (n : Nat) : ∀ (v1 : Int32) (v2 : Int32) (v3 : Int32) (v4 : Int32) (v5 : Int32) (v7 : Int64) (v9 : Int64) (v11 : Int32) (σ : ST), WW y l E 16 (fun a => QM y E (xJ a)) 96 [(0, .ref (ad y 13)), (1, .int v1), (2, .int v2), (3, .int v3), (4, .int v4), (5, .int v5), (7, .long v7), (9, .long v9), (11, .int v11)] [] σ (T_X3_sleep_L96  n v1 v2 v3 v4 v5 v7 v9 v11 σ) := by
  induction n with
  | zero => intros; exact r_none rfl
  | succ n ih =>
    intro v1 v2 v3 v4 v5 v7 v9 v11 σ
    unfold T_X3_sleep_L96
    refine r_iload (pc := 96) X dX3_sleep_96 8 rfl ?_
    refine r_iload_n (pc := 98) X dX3_sleep_98 3 rfl rfl ?_
    refine r_icmp_ge (pc := 99) (tgt := 116) X dX3_sleep_99 (by decide) ?_ ?_
    · refine r_iconst (pc := 116) X dX3_sleep_116 kc_0 ?_
      refine r_istore (pc := 117) (lv' := [(11, .int _), (0, .ref _), (1, .int _), (2, .int _), (3, .int _), (4, .int _), (5, .int _), (7, .long _), (9, .long _)]) X dX3_sleep_117 (by decide) rfl ?_
      refine r_sub [1, 2, 3, 4, 5, 6, 7, 8, 0] rfl ?_
      exact s_X3_sleep_L119 X Z hy FU v1 v2 v3 v4 v5 v7 v9 0 σ
    · refine r_lload (pc := 102) X dX3_sleep_102 7 rfl ?_
      refine r_iload (pc := 104) X dX3_sleep_104 4 rfl ?_
      refine r_i2l (pc := 106) X dX3_sleep_106 ?_
      refine r_lmul (pc := 107) X dX3_sleep_107 ?_
      refine r_vL (fun x1 => ?_)
      refine r_lstore (pc := 108) (lv' := [(9, .long _), (0, .ref _), (1, .int _), (2, .int _), (3, .int _), (4, .int _), (5, .int _), (7, .long _), (11, .int _)]) X dX3_sleep_108 (by decide) rfl ?_
      refine r_iinc (pc := 110) (lv' := [(9, .long _), (0, .ref _), (1, .int _), (2, .int _), (3, .int _), (4, .int _), (5, .int _), (7, .long _)]) X dX3_sleep_110 8 rfl (congrArg (fun z => v11 + z) kc_1) (by decide) rfl (fun x2 => ?_)
      refine r_goto (pc := 113) (tgt := 96) X dX3_sleep_113 (by decide) ?_
      refine r_sub [2, 3, 4, 5, 6, 7, 8, 1, 0] rfl ?_
      exact ih v1 v2 v3 v4 v5 v7 x1 x2 σ

set_option maxRecDepth 100000 in
theorem s_X3_sleep_j68 {y : LY} {l : Launch} {E : ET} (X : CX y l E cX3_sleep 16 RX3 (rmd 6)) (Z : ZX E (some .long)) (hy : y.1 ≤ (eS E).heap.size)     (v1 : Int32) (v2 : Int32) (v3 : Int32) (v4 : Int32) (v5 : Int32) (s0 : Int32) (σ : ST) : WW y l E 16 (fun a => QM y E (xJ a)) 68 [(0, .ref (ad y 13)), (1, .int v1), (2, .int v2), (3, .int v3), (4, .int v4), (5, .int v5)] [.int s0] σ (T_X3_sleep_j68   v1 v2 v3 v4 v5 s0 σ) := by
  unfold T_X3_sleep_j68
  refine r_istore (pc := 68) (lv' := [(6, .int _), (0, .ref _), (1, .int _), (2, .int _), (3, .int _), (4, .int _), (5, .int _)]) X dX3_sleep_68 (by decide) rfl ?_
  refine r_iload (pc := 70) X dX3_sleep_70 0 rfl ?_
  refine r_if_eq (pc := 72) (tgt := 82) X dX3_sleep_72 (by decide) ?_ ?_
  · refine r_aload_n (pc := 82) X dX3_sleep_82 1 rfl rfl ?_
    refine r_iload_n (pc := 83) X dX3_sleep_83 2 rfl rfl ?_
    refine r_puti (pc := 84) X dX3_sleep_84 fl_X3_64 fw_3_30 oc_13 rfl (fun σ1 => ?_)
    refine r_lconst (pc := 87) X dX3_sleep_87 (by decide : Int64.ofNat _ = 0) ?_
    refine r_lstore (pc := 88) (lv' := [(7, .long _), (6, .int _), (0, .ref _), (1, .int _), (2, .int _), (3, .int _), (4, .int _), (5, .int _)]) X dX3_sleep_88 (by decide) rfl ?_
    refine r_lconst (pc := 90) X dX3_sleep_90 (by decide : Int64.ofNat _ = 1) ?_
    refine r_lstore (pc := 91) (lv' := [(9, .long _), (7, .long _), (6, .int _), (0, .ref _), (1, .int _), (2, .int _), (3, .int _), (4, .int _), (5, .int _)]) X dX3_sleep_91 (by decide) rfl ?_
    refine r_iconst (pc := 93) X dX3_sleep_93 kc_0 ?_
    refine r_istore (pc := 94) (lv' := [(11, .int _), (9, .long _), (7, .long _), (6, .int _), (0, .ref _), (1, .int _), (2, .int _), (3, .int _), (4, .int _), (5, .int _)]) X dX3_sleep_94 (by decide) rfl ?_
    refine r_sub [4, 5, 6, 7, 8, 9, 2, 1, 0] rfl ?_
    exact s_X3_sleep_L96 X Z hy FU v1 v2 v3 v4 v5 0 1 0 σ1
  · refine r_aload_n (pc := 75) X dX3_sleep_75 1 rfl rfl ?_
    refine r_iload (pc := 76) X dX3_sleep_76 0 rfl ?_
    refine r_callvJ (pc := 78) X dX3_sleep_78 cf_X3_lowest ml_X3_336 (rf rfl rfl) hy oc_13.1 hc_3 (fun b hb => m_X3_lowest hb) rfl rfl (Nat.le_of_ble_eq_true rfl) (fun x2 σ3 => ?_)
    exact r_lret (pc := 81) X Z dX3_sleep_81 rfl

set_option maxRecDepth 100000 in
theorem s_X3_sleep_j15 {y : LY} {l : Launch} {E : ET} (X : CX y l E cX3_sleep 16 RX3 (rmd 6)) (Z : ZX E (some .long)) (hy : y.1 ≤ (eS E).heap.size)     (v1 : Int32) (v2 : Int32) (v3 : Int32) (v4 : Int32) (v5 : Int32) (σ : ST) : WW y l E 16 (fun a => QM y E (xJ a)) 15 [(0, .ref (ad y 13)), (1, .int v1), (2, .int v2), (3, .int v3), (4, .int v4), (5, .int v5)] [] σ (T_X3_sleep_j15   v1 v2 v3 v4 v5 σ) := by
  unfold T_X3_sleep_j15
  refine r_iconst (pc := 15) X dX3_sleep_15 kc_m1 ?_
  refine r_goto (pc := 16) (tgt := 68) X dX3_sleep_16 (by decide) ?_
  exact s_X3_sleep_j68 X Z hy v1 v2 v3 v4 v5 ((-1)) σ

set_option maxRecDepth 100000 in
theorem s_X3_sleep_j29 {y : LY} {l : Launch} {E : ET} (X : CX y l E cX3_sleep 16 RX3 (rmd 6)) (Z : ZX E (some .long)) (hy : y.1 ≤ (eS E).heap.size)     (v1 : Int32) (v2 : Int32) (v3 : Int32) (v4 : Int32) (v5 : Int32) (σ : ST) : WW y l E 16 (fun a => QM y E (xJ a)) 29 [(0, .ref (ad y 13)), (1, .int v1), (2, .int v2), (3, .int v3), (4, .int v4), (5, .int v5)] [] σ (T_X3_sleep_j29   v1 v2 v3 v4 v5 σ) := by
  unfold T_X3_sleep_j29
  refine r_bipush (pc := 29) X dX3_sleep_29 kb_m4 ?_
  refine r_goto (pc := 31) (tgt := 68) X dX3_sleep_31 (by decide) ?_
  exact s_X3_sleep_j68 X Z hy v1 v2 v3 v4 v5 ((-4)) σ

set_option maxRecDepth 100000 in
theorem s_X3_sleep_j47 {y : LY} {l : Launch} {E : ET} (X : CX y l E cX3_sleep 16 RX3 (rmd 6)) (Z : ZX E (some .long)) (hy : y.1 ≤ (eS E).heap.size)     (v1 : Int32) (v2 : Int32) (v3 : Int32) (v4 : Int32) (v5 : Int32) (σ : ST) : WW y l E 16 (fun a => QM y E (xJ a)) 47 [(0, .ref (ad y 13)), (1, .int v1), (2, .int v2), (3, .int v3), (4, .int v4), (5, .int v5)] [] σ (T_X3_sleep_j47   v1 v2 v3 v4 v5 σ) := by
  unfold T_X3_sleep_j47
  refine r_bipush (pc := 47) X dX3_sleep_47 kb_m6 ?_
  refine r_goto (pc := 49) (tgt := 68) X dX3_sleep_49 (by decide) ?_
  exact s_X3_sleep_j68 X Z hy v1 v2 v3 v4 v5 ((-6)) σ

set_option maxRecDepth 100000 in
theorem m_X3_sleep {y : LY} {l : Launch}  {a0 : Int32} {a1 : Int32} {a2 : Int32} {a3 : Int32} {a4 : Int32} {σ : ST} {a : (Int64 × ST)} (h : T_X3_sleep a0 a1 a2 a3 a4 σ = some a) : MU y l yX3_sleep cX3_sleep 16 (some .long) (rmd 6) [.ref (ad y 13), .int a0, .int a1, .int a2, .int a3, .int a4] σ (xJ a) := by
  refine MU.of (φ := xJ) h (by decide +kernel) rfl (fun E X Z hy => ?_)
  have X : CX y l E cX3_sleep 16 RX3 (rmd 6) := X
  show WW y l E 16 _ 0 [(0, .ref (ad y 13)), (1, .int a0), (2, .int a1), (3, .int a2), (4, .int a3), (5, .int a4)] [] σ (T_X3_sleep a0 a1 a2 a3 a4 σ)
  unfold T_X3_sleep
  refine r_aload_n (pc := 0) X dX3_sleep_0 0 rfl rfl ?_
  refine r_iload_n (pc := 1) X dX3_sleep_1 1 rfl rfl ?_
  refine r_callvp (pc := 2) X dX3_sleep_2 cf_X3_isBearer ml_X3_91 (rf rfl rfl) hy oc_13.1 hc_3 (fun b hb => m_X3_isBearer hb) rfl rfl (Nat.le_of_ble_eq_true rfl) (fun x1 => ?_)
  refine r_if_eq (pc := 5) (tgt := 15) X dX3_sleep_5 (by decide) ?_ ?_
  · exact s_X3_sleep_j15 X Z hy a0 a1 a2 a3 a4 σ
  · refine r_iload_n (pc := 8) X dX3_sleep_8 2 rfl rfl ?_
    refine r_callsp (pc := 9) X dX3_sleep_9 cf_X3_isPlace ml_X3_226 (rf rfl rfl) hy (fun b hb => m_X3_isPlace hb) rfl rfl (Nat.le_of_ble_eq_true rfl) (fun x3 => ?_)
    refine r_if_ne (pc := 12) (tgt := 19) X dX3_sleep_12 (by decide) ?_ ?_
    · refine r_iload_n (pc := 19) X dX3_sleep_19 3 rfl rfl ?_
      refine r_if_lt (pc := 20) (tgt := 29) X dX3_sleep_20 (by decide) ?_ ?_
      · exact s_X3_sleep_j29 X Z hy a0 a1 a2 a3 a4 σ
      · refine r_iload (pc := 23) X dX3_sleep_23 4 rfl ?_
        refine r_iconst (pc := 25) X dX3_sleep_25 kc_2 ?_
        refine r_icmp_ge (pc := 26) (tgt := 34) X dX3_sleep_26 (by decide) ?_ ?_
        · refine r_iload_n (pc := 34) X dX3_sleep_34 3 rfl rfl ?_
          refine r_bipush (pc := 35) X dX3_sleep_35 kb_8 ?_
          refine r_icmp_gt (pc := 37) (tgt := 47) X dX3_sleep_37 (by decide) ?_ ?_
          · exact s_X3_sleep_j47 X Z hy a0 a1 a2 a3 a4 σ
          · refine r_iload (pc := 40) X dX3_sleep_40 4 rfl ?_
            refine r_bipush (pc := 42) X dX3_sleep_42 kb_20 ?_
            refine r_icmp_le (pc := 44) (tgt := 52) X dX3_sleep_44 (by decide) ?_ ?_
            · refine r_iload (pc := 52) X dX3_sleep_52 5 rfl ?_
              refine r_iconst (pc := 54) X dX3_sleep_54 kc_0 ?_
              refine r_iconst (pc := 55) X dX3_sleep_55 kc_1 ?_
              refine r_callsp (pc := 56) X dX3_sleep_56 cf_X3_isIn ml_X3_113 (rf rfl rfl) hy (fun b hb => m_X3_isIn hb) rfl rfl (Nat.le_of_ble_eq_true rfl) (fun x5 => ?_)
              refine r_if_ne (pc := 59) (tgt := 67) X dX3_sleep_59 (by decide) ?_ ?_
              · refine r_iconst (pc := 67) X dX3_sleep_67 kc_0 ?_
                exact s_X3_sleep_j68 X Z hy a0 a1 a2 a3 a4 0 σ
              · refine r_bipush (pc := 62) X dX3_sleep_62 kb_m2 ?_
                refine r_goto (pc := 64) (tgt := 68) X dX3_sleep_64 (by decide) ?_
                exact s_X3_sleep_j68 X Z hy a0 a1 a2 a3 a4 ((-2)) σ
            · exact s_X3_sleep_j47 X Z hy a0 a1 a2 a3 a4 σ
        · exact s_X3_sleep_j29 X Z hy a0 a1 a2 a3 a4 σ
    · exact s_X3_sleep_j15 X Z hy a0 a1 a2 a3 a4 σ

set_option maxRecDepth 100000 in
theorem s_X3_ledSwapped_j80 {y : LY} {l : Launch} {E : ET} (X : CX y l E cX3_ledSwapped 6 RX3 (rmd 9)) (Z : ZX E (some .int)) (hy : y.1 ≤ (eS E).heap.size)     (v3 : Int32) (σ : ST) : WW y l E 6 (fun a => QM y E (xI a)) 80 [(0, .ref (ad y 13)), (3, .int v3)] [] σ (T_X3_ledSwapped_j80   v3 σ) := by
  unfold T_X3_ledSwapped_j80
  refine r_aload_n (pc := 80) X dX3_ledSwapped_80 0 rfl rfl ?_
  refine r_iload_n (pc := 81) X dX3_ledSwapped_81 1 rfl rfl ?_
  refine r_callvI (pc := 82) X dX3_ledSwapped_82 cf_X3_allLed ml_X3_287 (rf rfl rfl) hy oc_13.1 hc_3 (fun b hb => m_X3_allLed hb) rfl rfl (Nat.le_of_ble_eq_true rfl) (fun x1 σ2 => ?_)
  refine r_istore (pc := 85) (lv' := [(5, .int _), (0, .ref _), (3, .int _)]) X dX3_ledSwapped_85 (by decide) rfl ?_
  refine r_aload_n (pc := 87) X dX3_ledSwapped_87 1 rfl rfl ?_
  refine r_iconst (pc := 88) X dX3_ledSwapped_88 kc_1 ?_
  refine r_iconst (pc := 89) X dX3_ledSwapped_89 kc_0 ?_
  refine r_callvV (pc := 90) X dX3_ledSwapped_90 cf_X3_passesAll ml_X3_161 (rf rfl rfl) hy oc_13.1 hc_3 (fun b hb => m_X3_passesAll hb) rfl rfl (Nat.le_of_ble_eq_true rfl) (fun σ4 => ?_)
  refine r_iload (pc := 93) X dX3_ledSwapped_93 0 rfl ?_
  exact r_iret (pc := 95) X Z dX3_ledSwapped_95 rfl

set_option maxRecDepth 100000 in
theorem s_X3_ledSwapped_j57 {y : LY} {l : Launch} {E : ET} (X : CX y l E cX3_ledSwapped 6 RX3 (rmd 9)) (Z : ZX E (some .int)) (hy : y.1 ≤ (eS E).heap.size)     (v2 : Int32) (v3 : Int32) (σ : ST) : WW y l E 6 (fun a => QM y E (xI a)) 57 [(0, .ref (ad y 13)), (2, .int v2), (3, .int v3)] [] σ (T_X3_ledSwapped_j57   v2 v3 σ) := by
  unfold T_X3_ledSwapped_j57
  refine r_aload_n (pc := 57) X dX3_ledSwapped_57 0 rfl rfl ?_
  refine r_geta (pc := 58) X dX3_ledSwapped_58 fl_X3_37 oc_13 (by decide) ?_
  refine r_iload_n (pc := 61) X dX3_ledSwapped_61 1 rfl rfl ?_
  refine r_iald (pc := 62) X dX3_ledSwapped_62 ar_13_9 (fun x1 => ?_)
  refine r_bipush (pc := 63) X dX3_ledSwapped_63 kb_9 ?_
  refine r_icmp_ge (pc := 65) (tgt := 80) X dX3_ledSwapped_65 (by decide) ?_ ?_
  · refine r_sub [0, 2] rfl ?_
    exact s_X3_ledSwapped_j80 X Z hy v3 σ
  · refine r_aload_n (pc := 68) X dX3_ledSwapped_68 0 rfl rfl ?_
    refine r_geta (pc := 69) X dX3_ledSwapped_69 fl_X3_25 oc_13 (by decide) ?_
    refine r_aload_n (pc := 72) X dX3_ledSwapped_72 0 rfl rfl ?_
    refine r_geta (pc := 73) X dX3_ledSwapped_73 fl_X3_37 oc_13 (by decide) ?_
    refine r_iload_n (pc := 76) X dX3_ledSwapped_76 1 rfl rfl ?_
    refine r_iald (pc := 77) X dX3_ledSwapped_77 ar_13_9 (fun x2 => ?_)
    refine r_iconst (pc := 78) X dX3_ledSwapped_78 kc_0 ?_
    refine r_iast (pc := 79) X dX3_ledSwapped_79 ar_13_5 (fun σ3 => ?_)
    refine r_sub [0, 2] rfl ?_
    exact s_X3_ledSwapped_j80 X Z hy v3 σ3

set_option maxRecDepth 100000 in
theorem m_X3_ledSwapped {y : LY} {l : Launch}  {a0 : Int32} {a1 : Int32} {a2 : Int32} {σ : ST} {a : (Int32 × ST)} (h : T_X3_ledSwapped a0 a1 a2 σ = some a) : MU y l yX3_ledSwapped cX3_ledSwapped 6 (some .int) (rmd 9) [.ref (ad y 13), .int a0, .int a1, .int a2] σ (xI a) := by
  refine MU.of (φ := xI) h (by decide +kernel) rfl (fun E X Z hy => ?_)
  have X : CX y l E cX3_ledSwapped 6 RX3 (rmd 9) := X
  show WW y l E 6 _ 0 [(0, .ref (ad y 13)), (1, .int a0), (2, .int a1), (3, .int a2)] [] σ (T_X3_ledSwapped a0 a1 a2 σ)
  unfold T_X3_ledSwapped
  refine r_aload_n (pc := 0) X dX3_ledSwapped_0 0 rfl rfl ?_
  refine r_iconst (pc := 1) X dX3_ledSwapped_1 kc_1 ?_
  refine r_iconst (pc := 2) X dX3_ledSwapped_2 kc_1 ?_
  refine r_callvV (pc := 3) X dX3_ledSwapped_3 cf_X3_passesAll ml_X3_161 (rf rfl rfl) hy oc_13.1 hc_3 (fun b hb => m_X3_passesAll hb) rfl rfl (Nat.le_of_ble_eq_true rfl) (fun σ2 => ?_)
  refine r_aload_n (pc := 6) X dX3_ledSwapped_6 0 rfl rfl ?_
  refine r_geta (pc := 7) X dX3_ledSwapped_7 fl_X3_37 oc_13 (by decide) ?_
  refine r_iload_n (pc := 10) X dX3_ledSwapped_10 1 rfl rfl ?_
  refine r_iald (pc := 11) X dX3_ledSwapped_11 ar_13_9 (fun x3 => ?_)
  refine r_istore (pc := 12) (lv' := [(4, .int _), (0, .ref _), (1, .int _), (2, .int _), (3, .int _)]) X dX3_ledSwapped_12 (by decide) rfl ?_
  refine r_aload_n (pc := 14) X dX3_ledSwapped_14 1 rfl rfl ?_
  refine r_geta (pc := 15) X dX3_ledSwapped_15 fl_X3_37 oc_13 (by decide) ?_
  refine r_iload_n (pc := 18) X dX3_ledSwapped_18 2 rfl rfl ?_
  refine r_aload_n (pc := 19) X dX3_ledSwapped_19 1 rfl rfl ?_
  refine r_geta (pc := 20) X dX3_ledSwapped_20 fl_X3_37 oc_13 (by decide) ?_
  refine r_iload_n (pc := 23) X dX3_ledSwapped_23 3 rfl rfl ?_
  refine r_iald (pc := 24) X dX3_ledSwapped_24 ar_13_9 (fun x4 => ?_)
  refine r_iast (pc := 25) X dX3_ledSwapped_25 ar_13_9 (fun σ5 => ?_)
  refine r_aload_n (pc := 26) X dX3_ledSwapped_26 1 rfl rfl ?_
  refine r_geta (pc := 27) X dX3_ledSwapped_27 fl_X3_37 oc_13 (by decide) ?_
  refine r_iload_n (pc := 30) X dX3_ledSwapped_30 3 rfl rfl ?_
  refine r_iload (pc := 31) X dX3_ledSwapped_31 0 rfl ?_
  refine r_iast (pc := 33) X dX3_ledSwapped_33 ar_13_9 (fun σ6 => ?_)
  refine r_aload_n (pc := 34) X dX3_ledSwapped_34 1 rfl rfl ?_
  refine r_geta (pc := 35) X dX3_ledSwapped_35 fl_X3_37 oc_13 (by decide) ?_
  refine r_iload_n (pc := 38) X dX3_ledSwapped_38 2 rfl rfl ?_
  refine r_iald (pc := 39) X dX3_ledSwapped_39 ar_13_9 (fun x7 => ?_)
  refine r_bipush (pc := 40) X dX3_ledSwapped_40 kb_9 ?_
  refine r_icmp_ge (pc := 42) (tgt := 57) X dX3_ledSwapped_42 (by decide) ?_ ?_
  · refine r_sub [1, 3, 4] rfl ?_
    exact s_X3_ledSwapped_j57 X Z hy a1 a2 σ6
  · refine r_aload_n (pc := 45) X dX3_ledSwapped_45 1 rfl rfl ?_
    refine r_geta (pc := 46) X dX3_ledSwapped_46 fl_X3_25 oc_13 (by decide) ?_
    refine r_aload_n (pc := 49) X dX3_ledSwapped_49 1 rfl rfl ?_
    refine r_geta (pc := 50) X dX3_ledSwapped_50 fl_X3_37 oc_13 (by decide) ?_
    refine r_iload_n (pc := 53) X dX3_ledSwapped_53 2 rfl rfl ?_
    refine r_iald (pc := 54) X dX3_ledSwapped_54 ar_13_9 (fun x8 => ?_)
    refine r_iconst (pc := 55) X dX3_ledSwapped_55 kc_0 ?_
    refine r_iast (pc := 56) X dX3_ledSwapped_56 ar_13_5 (fun σ9 => ?_)
    refine r_sub [1, 3, 4] rfl ?_
    exact s_X3_ledSwapped_j57 X Z hy a1 a2 σ9

set_option maxRecDepth 100000 in
theorem s_X3_swap_L43 {y : LY} {l : Launch} {E : ET} (X : CX y l E cX3_swap 8 RX3 (rmd 10)) (Z : ZX E (some .int)) (hy : y.1 ≤ (eS E).heap.size)   {K28 : Int32 → Int32 → Int32 → Int32 → ST → Option (Int32 × ST)} (hK28 : ∀ (v1 : Int32) (v3 : Int32) (v4 : Int32) (v5 : Int32) (σ : ST), WW y l E 8 (fun a => QM y E (xI a)) 28 [(0, .ref (ad y 13)), (1, .int v1), (3, .int v3), (4, .int v4), (5, .int v5)] [] σ (K28 v1 v3 v4 v5 σ)) (n : Nat) : ∀ (v1 : Int32) (v3 : Int32) (v4 : Int32) (v5 : Int32) (v6 : Int32) (σ : ST), WW y l E 8 (fun a => QM y E (xI a)) 43 [(0, .ref (ad y 13)), (1, .int v1), (3, .int v3), (4, .int v4), (5, .int v5), (6, .int v6)] [] σ (T_X3_swap_L43 K28 n v1 v3 v4 v5 v6 σ) := by
  induction n with
  | zero => intros; exact r_none rfl
  | succ n ih =>
    intro v1 v3 v4 v5 v6 σ
    unfold T_X3_swap_L43
    refine r_iload (pc := 43) X dX3_swap_43 5 rfl ?_
    refine r_aload_n (pc := 45) X dX3_swap_45 0 rfl rfl ?_
    refine r_geti (pc := 46) X dX3_swap_46 fl_X3_88 oc_13 rfl (fun x1 => ?_)
    refine r_icmp_ge (pc := 49) (tgt := 92) X dX3_swap_49 (by decide) ?_ ?_
    · refine r_iinc (pc := 92) (lv' := [(0, .ref _), (1, .int _), (3, .int _), (4, .int _), (6, .int _)]) X dX3_swap_92 4 rfl (congrArg (fun z => v5 + z) kc_1) (by decide) rfl (fun x2 => ?_)
      refine r_goto (pc := 95) (tgt := 28) X dX3_swap_95 (by decide) ?_
      refine r_sub [1, 2, 3, 4, 0] rfl ?_
      exact hK28 v1 v3 v4 x2 σ
    · refine r_aload_n (pc := 52) X dX3_swap_52 0 rfl rfl ?_
      refine r_iload (pc := 53) X dX3_swap_53 4 rfl ?_
      refine r_iload (pc := 55) X dX3_swap_55 5 rfl ?_
      refine r_iload_n (pc := 57) X dX3_swap_57 1 rfl rfl ?_
      refine r_callvI (pc := 58) X dX3_swap_58 cf_X3_ledSwapped ml_X3_344 (rf rfl rfl) hy oc_13.1 hc_3 (fun b hb => m_X3_ledSwapped hb) rfl rfl (Nat.le_of_ble_eq_true rfl) (fun x3 σ4 => ?_)
      refine r_istore (pc := 61) (lv' := [(7, .int _), (0, .ref _), (1, .int _), (3, .int _), (4, .int _), (5, .int _), (6, .int _)]) X dX3_swap_61 (by decide) rfl ?_
      refine r_iload (pc := 63) X dX3_swap_63 0 rfl ?_
      refine r_iload (pc := 65) X dX3_swap_65 4 rfl ?_
      refine r_icmp_lt (pc := 67) (tgt := 73) X dX3_swap_67 (by decide) ?_ ?_
      · refine r_bipush (pc := 73) X dX3_swap_73 kb_10 ?_
        refine r_iload (pc := 75) X dX3_swap_75 5 rfl ?_
        refine r_imul (pc := 77) X dX3_swap_77 ?_
        refine r_iload (pc := 78) X dX3_swap_78 6 rfl ?_
        refine r_iadd (pc := 80) X dX3_swap_80 ?_
        refine r_vl (fun x5 => ?_)
        refine r_istore_n (pc := 81) (lv' := [(3, .int _), (7, .int _), (0, .ref _), (1, .int _), (4, .int _), (5, .int _), (6, .int _)]) X dX3_swap_81 rfl (by decide) rfl ?_
        refine r_iload (pc := 82) X dX3_swap_82 1 rfl ?_
        refine r_istore (pc := 84) (lv' := [(4, .int _), (3, .int _), (7, .int _), (0, .ref _), (1, .int _), (5, .int _), (6, .int _)]) X dX3_swap_84 (by decide) rfl ?_
        refine r_iinc (pc := 86) (lv' := [(4, .int _), (3, .int _), (7, .int _), (0, .ref _), (1, .int _), (5, .int _)]) X dX3_swap_86 6 rfl (congrArg (fun z => v6 + z) kc_1) (by decide) rfl (fun x6 => ?_)
        refine r_goto (pc := 89) (tgt := 43) X dX3_swap_89 (by decide) ?_
        refine r_sub [4, 5, 2, 1, 6, 0] rfl ?_
        exact ih v1 x5 x3 v5 x6 σ4
      · refine r_goto (pc := 70) (tgt := 86) X dX3_swap_70 (by decide) ?_
        refine r_iinc (pc := 86) (lv' := [(7, .int _), (0, .ref _), (1, .int _), (3, .int _), (4, .int _), (5, .int _)]) X dX3_swap_86 6 rfl (congrArg (fun z => v6 + z) kc_1) (by decide) rfl (fun x7 => ?_)
        refine r_goto (pc := 89) (tgt := 43) X dX3_swap_89 (by decide) ?_
        refine r_sub [2, 3, 4, 5, 6, 0] rfl ?_
        exact ih v1 v3 v4 v5 x7 σ4

set_option maxRecDepth 100000 in
theorem s_X3_swap_L28 {y : LY} {l : Launch} {E : ET} (X : CX y l E cX3_swap 8 RX3 (rmd 10)) (Z : ZX E (some .int)) (hy : y.1 ≤ (eS E).heap.size)     (n : Nat) : ∀ (v1 : Int32) (v3 : Int32) (v4 : Int32) (v5 : Int32) (σ : ST), WW y l E 8 (fun a => QM y E (xI a)) 28 [(0, .ref (ad y 13)), (1, .int v1), (3, .int v3), (4, .int v4), (5, .int v5)] [] σ (T_X3_swap_L28  n v1 v3 v4 v5 σ) := by
  induction n with
  | zero => intros; exact r_none rfl
  | succ n ih =>
    intro v1 v3 v4 v5 σ
    unfold T_X3_swap_L28
    refine r_iload (pc := 28) X dX3_swap_28 4 rfl ?_
    refine r_aload_n (pc := 30) X dX3_swap_30 0 rfl rfl ?_
    refine r_geti (pc := 31) X dX3_swap_31 fl_X3_88 oc_13 rfl (fun x1 => ?_)
    refine r_icmp_ge (pc := 34) (tgt := 98) X dX3_swap_34 (by decide) ?_ ?_
    · refine r_iload_n (pc := 98) X dX3_swap_98 2 rfl rfl ?_
      exact r_iret (pc := 99) X Z dX3_swap_99 rfl
    · refine r_iload (pc := 37) X dX3_swap_37 4 rfl ?_
      refine r_iconst (pc := 39) X dX3_swap_39 kc_1 ?_
      refine r_iadd (pc := 40) X dX3_swap_40 ?_
      refine r_vl (fun x2 => ?_)
      refine r_istore (pc := 41) (lv' := [(6, .int _), (0, .ref _), (1, .int _), (3, .int _), (4, .int _), (5, .int _)]) X dX3_swap_41 (by decide) rfl ?_
      refine r_sub [1, 2, 3, 4, 5, 0] rfl ?_
      exact s_X3_swap_L43 X Z hy (fun v1 v3 v4 v5 s => ih v1 v3 v4 v5 s) FU v1 v3 v4 v5 x2 σ

set_option maxRecDepth 100000 in
theorem m_X3_swap {y : LY} {l : Launch}  {a0 : Int32} {σ : ST} {a : (Int32 × ST)} (h : T_X3_swap a0 σ = some a) : MU y l yX3_swap cX3_swap 8 (some .int) (rmd 10) [.ref (ad y 13), .int a0] σ (xI a) := by
  refine MU.of (φ := xI) h (by decide +kernel) rfl (fun E X Z hy => ?_)
  have X : CX y l E cX3_swap 8 RX3 (rmd 10) := X
  show WW y l E 8 _ 0 [(0, .ref (ad y 13)), (1, .int a0)] [] σ (T_X3_swap a0 σ)
  unfold T_X3_swap
  refine r_iload_n (pc := 0) X dX3_swap_0 1 rfl rfl ?_
  refine r_callsp (pc := 1) X dX3_swap_1 cf_X3_notHours ml_X3_235 (rf rfl rfl) hy (fun b hb => m_X3_notHours hb) rfl rfl (Nat.le_of_ble_eq_true rfl) (fun x1 => ?_)
  refine r_istore_n (pc := 4) (lv' := [(2, .int _), (0, .ref _), (1, .int _)]) X dX3_swap_4 rfl (by decide) rfl ?_
  refine r_iload_n (pc := 5) X dX3_swap_5 0 rfl rfl ?_
  refine r_if_eq (pc := 6) (tgt := 15) X dX3_swap_6 (by decide) ?_ ?_
  · refine r_bipush (pc := 15) X dX3_swap_15 kb_m9 ?_
    refine r_istore_n (pc := 17) (lv' := [(3, .int _), (2, .int _), (0, .ref _), (1, .int _)]) X dX3_swap_17 rfl (by decide) rfl ?_
    refine r_aload_n (pc := 18) X dX3_swap_18 2 rfl rfl ?_
    refine r_iload_n (pc := 19) X dX3_swap_19 3 rfl rfl ?_
    refine r_callvI (pc := 20) X dX3_swap_20 cf_X3_allLed ml_X3_287 (rf rfl rfl) hy oc_13.1 hc_3 (fun b hb => m_X3_allLed hb) rfl rfl (Nat.le_of_ble_eq_true rfl) (fun x3 σ4 => ?_)
    refine r_istore (pc := 23) (lv' := [(4, .int _), (3, .int _), (2, .int _), (0, .ref _), (1, .int _)]) X dX3_swap_23 (by decide) rfl ?_
    refine r_iconst (pc := 25) X dX3_swap_25 kc_0 ?_
    refine r_istore (pc := 26) (lv' := [(5, .int _), (4, .int _), (3, .int _), (2, .int _), (0, .ref _), (1, .int _)]) X dX3_swap_26 (by decide) rfl ?_
    refine r_sub [4, 5, 2, 1, 0] rfl ?_
    exact s_X3_swap_L28 X Z hy FU a0 ((-9)) x3 0 σ4
  · refine r_aload_n (pc := 9) X dX3_swap_9 1 rfl rfl ?_
    refine r_iload_n (pc := 10) X dX3_swap_10 0 rfl rfl ?_
    refine r_callvI (pc := 11) X dX3_swap_11 cf_X3_no ml_X3_102 (rf rfl rfl) hy oc_13.1 hc_3 (fun b hb => m_X3_no hb) rfl rfl (Nat.le_of_ble_eq_true rfl) (fun x5 σ6 => ?_)
    exact r_iret (pc := 14) X Z dX3_swap_14 rfl

set_option maxRecDepth 100000 in
theorem s_X3_heir_L73 {y : LY} {l : Launch} {E : ET} (X : CX y l E cX3_heir 4 RX3 (rmd 3)) (Z : ZX E (some .int)) (hy : y.1 ≤ (eS E).heap.size)     (n : Nat) : ∀ (v1 : Int32) (v2 : Int32) (v3 : Int32) (σ : ST), WW y l E 4 (fun a => QM y E (xI a)) 73 [(0, .ref (ad y 13)), (1, .int v1), (2, .int v2), (3, .int v3)] [] σ (T_X3_heir_L73  n v1 v2 v3 σ) := by
  induction n with
  | zero => intros; exact r_none rfl
  | succ n ih =>
    intro v1 v2 v3 σ
    unfold T_X3_heir_L73
    refine r_iload_n (pc := 73) X dX3_heir_73 3 rfl rfl ?_
    refine r_aload_n (pc := 74) X dX3_heir_74 0 rfl rfl ?_
    refine r_geti (pc := 75) X dX3_heir_75 fl_X3_83 oc_13 rfl (fun x1 => ?_)
    refine r_icmp_ge (pc := 78) (tgt := 111) X dX3_heir_78 (by decide) ?_ ?_
    · refine r_iload_n (pc := 111) X dX3_heir_111 2 rfl rfl ?_
      exact r_iret (pc := 112) X Z dX3_heir_112 rfl
    · refine r_iload_n (pc := 81) X dX3_heir_81 1 rfl rfl ?_
      refine r_iconst (pc := 82) X dX3_heir_82 kc_1 ?_
      refine r_icmp_ne (pc := 83) (tgt := 111) X dX3_heir_83 (by decide) ?_ ?_
      · refine r_iload_n (pc := 111) X dX3_heir_111 2 rfl rfl ?_
        exact r_iret (pc := 112) X Z dX3_heir_112 rfl
      · refine r_iload_n (pc := 86) X dX3_heir_86 2 rfl rfl ?_
        refine r_if_lt (pc := 87) (tgt := 103) X dX3_heir_87 (by decide) ?_ ?_
        · refine r_iload_n (pc := 103) X dX3_heir_103 3 rfl rfl ?_
          refine r_istore_n (pc := 104) (lv' := [(2, .int _), (0, .ref _), (1, .int _), (3, .int _)]) X dX3_heir_104 rfl (by decide) rfl ?_
          refine r_iinc (pc := 105) (lv' := [(2, .int _), (0, .ref _), (1, .int _)]) X dX3_heir_105 3 rfl (congrArg (fun z => v3 + z) kc_1) (by decide) rfl (fun x2 => ?_)
          refine r_goto (pc := 108) (tgt := 73) X dX3_heir_108 (by decide) ?_
          refine r_sub [2, 3, 1, 0] rfl ?_
          exact ih v1 v3 x2 σ
        · refine r_aload_n (pc := 90) X dX3_heir_90 0 rfl rfl ?_
          refine r_iload_n (pc := 91) X dX3_heir_91 3 rfl rfl ?_
          refine r_callvp (pc := 92) X dX3_heir_92 cf_X3_pullOf ml_X3_198 (rf rfl rfl) hy oc_13.1 hc_3 (fun b hb => m_X3_pullOf hb) rfl rfl (Nat.le_of_ble_eq_true rfl) (fun x3 => ?_)
          refine r_aload_n (pc := 95) X dX3_heir_95 0 rfl rfl ?_
          refine r_iload_n (pc := 96) X dX3_heir_96 2 rfl rfl ?_
          refine r_callvp (pc := 97) X dX3_heir_97 cf_X3_pullOf ml_X3_198 (rf rfl rfl) hy oc_13.1 hc_3 (fun b hb => m_X3_pullOf hb) rfl rfl (Nat.le_of_ble_eq_true rfl) (fun x5 => ?_)
          refine r_icmp_le (pc := 100) (tgt := 105) X dX3_heir_100 (by decide) ?_ ?_
          · refine r_iinc (pc := 105) (lv' := [(0, .ref _), (1, .int _), (2, .int _)]) X dX3_heir_105 3 rfl (congrArg (fun z => v3 + z) kc_1) (by decide) rfl (fun x7 => ?_)
            refine r_goto (pc := 108) (tgt := 73) X dX3_heir_108 (by decide) ?_
            refine r_sub [1, 2, 3, 0] rfl ?_
            exact ih v1 v2 x7 σ
          · refine r_iload_n (pc := 103) X dX3_heir_103 3 rfl rfl ?_
            refine r_istore_n (pc := 104) (lv' := [(2, .int _), (0, .ref _), (1, .int _), (3, .int _)]) X dX3_heir_104 rfl (by decide) rfl ?_
            refine r_iinc (pc := 105) (lv' := [(2, .int _), (0, .ref _), (1, .int _)]) X dX3_heir_105 3 rfl (congrArg (fun z => v3 + z) kc_1) (by decide) rfl (fun x8 => ?_)
            refine r_goto (pc := 108) (tgt := 73) X dX3_heir_108 (by decide) ?_
            refine r_sub [2, 3, 1, 0] rfl ?_
            exact ih v1 v3 x8 σ

set_option maxRecDepth 100000 in
theorem s_X3_heir_L21 {y : LY} {l : Launch} {E : ET} (X : CX y l E cX3_heir 4 RX3 (rmd 3)) (Z : ZX E (some .int)) (hy : y.1 ≤ (eS E).heap.size)     (n : Nat) : ∀ (v1 : Int32) (v2 : Int32) (v3 : Int32) (σ : ST), WW y l E 4 (fun a => QM y E (xI a)) 21 [(0, .ref (ad y 13)), (1, .int v1), (2, .int v2), (3, .int v3)] [] σ (T_X3_heir_L21  n v1 v2 v3 σ) := by
  induction n with
  | zero => intros; exact r_none rfl
  | succ n ih =>
    intro v1 v2 v3 σ
    unfold T_X3_heir_L21
    refine r_iload_n (pc := 21) X dX3_heir_21 3 rfl rfl ?_
    refine r_aload_n (pc := 22) X dX3_heir_22 0 rfl rfl ?_
    refine r_geti (pc := 23) X dX3_heir_23 fl_X3_88 oc_13 rfl (fun x1 => ?_)
    refine r_icmp_ge (pc := 26) (tgt := 71) X dX3_heir_26 (by decide) ?_ ?_
    · refine r_iconst (pc := 71) X dX3_heir_71 kc_0 ?_
      refine r_istore_n (pc := 72) (lv' := [(3, .int _), (0, .ref _), (1, .int _), (2, .int _)]) X dX3_heir_72 rfl (by decide) rfl ?_
      refine r_sub [1, 2, 3, 0] rfl ?_
      exact s_X3_heir_L73 X Z hy FU v1 v2 0 σ
    · refine r_iload_n (pc := 29) X dX3_heir_29 1 rfl rfl ?_
      refine r_if_ne (pc := 30) (tgt := 71) X dX3_heir_30 (by decide) ?_ ?_
      · refine r_iconst (pc := 71) X dX3_heir_71 kc_0 ?_
        refine r_istore_n (pc := 72) (lv' := [(3, .int _), (0, .ref _), (1, .int _), (2, .int _)]) X dX3_heir_72 rfl (by decide) rfl ?_
        refine r_sub [1, 2, 3, 0] rfl ?_
        exact s_X3_heir_L73 X Z hy FU v1 v2 0 σ
      · refine r_aload_n (pc := 33) X dX3_heir_33 0 rfl rfl ?_
        refine r_geta (pc := 34) X dX3_heir_34 fl_X3_37 oc_13 (by decide) ?_
        refine r_iload_n (pc := 37) X dX3_heir_37 3 rfl rfl ?_
        refine r_iald (pc := 38) X dX3_heir_38 ar_13_9 (fun x2 => ?_)
        refine r_bipush (pc := 39) X dX3_heir_39 kb_9 ?_
        refine r_icmp_ne (pc := 41) (tgt := 65) X dX3_heir_41 (by decide) ?_ ?_
        · refine r_iinc (pc := 65) (lv' := [(0, .ref _), (1, .int _), (2, .int _)]) X dX3_heir_65 3 rfl (congrArg (fun z => v3 + z) kc_1) (by decide) rfl (fun x3 => ?_)
          refine r_goto (pc := 68) (tgt := 21) X dX3_heir_68 (by decide) ?_
          refine r_sub [1, 2, 3, 0] rfl ?_
          exact ih v1 v2 x3 σ
        · refine r_iload_n (pc := 44) X dX3_heir_44 2 rfl rfl ?_
          refine r_if_lt (pc := 45) (tgt := 63) X dX3_heir_45 (by decide) ?_ ?_
          · refine r_iload_n (pc := 63) X dX3_heir_63 3 rfl rfl ?_
            refine r_istore_n (pc := 64) (lv' := [(2, .int _), (0, .ref _), (1, .int _), (3, .int _)]) X dX3_heir_64 rfl (by decide) rfl ?_
            refine r_iinc (pc := 65) (lv' := [(2, .int _), (0, .ref _), (1, .int _)]) X dX3_heir_65 3 rfl (congrArg (fun z => v3 + z) kc_1) (by decide) rfl (fun x4 => ?_)
            refine r_goto (pc := 68) (tgt := 21) X dX3_heir_68 (by decide) ?_
            refine r_sub [2, 3, 1, 0] rfl ?_
            exact ih v1 v3 x4 σ
          · refine r_aload_n (pc := 48) X dX3_heir_48 0 rfl rfl ?_
            refine r_geta (pc := 49) X dX3_heir_49 fl_X3_28 oc_13 (by decide) ?_
            refine r_iload_n (pc := 52) X dX3_heir_52 3 rfl rfl ?_
            refine r_iald (pc := 53) X dX3_heir_53 ar_13_6 (fun x5 => ?_)
            refine r_aload_n (pc := 54) X dX3_heir_54 0 rfl rfl ?_
            refine r_geta (pc := 55) X dX3_heir_55 fl_X3_28 oc_13 (by decide) ?_
            refine r_iload_n (pc := 58) X dX3_heir_58 2 rfl rfl ?_
            refine r_iald (pc := 59) X dX3_heir_59 ar_13_6 (fun x6 => ?_)
            refine r_icmp_le (pc := 60) (tgt := 65) X dX3_heir_60 (by decide) ?_ ?_
            · refine r_iinc (pc := 65) (lv' := [(0, .ref _), (1, .int _), (2, .int _)]) X dX3_heir_65 3 rfl (congrArg (fun z => v3 + z) kc_1) (by decide) rfl (fun x7 => ?_)
              refine r_goto (pc := 68) (tgt := 21) X dX3_heir_68 (by decide) ?_
              refine r_sub [1, 2, 3, 0] rfl ?_
              exact ih v1 v2 x7 σ
            · refine r_iload_n (pc := 63) X dX3_heir_63 3 rfl rfl ?_
              refine r_istore_n (pc := 64) (lv' := [(2, .int _), (0, .ref _), (1, .int _), (3, .int _)]) X dX3_heir_64 rfl (by decide) rfl ?_
              refine r_iinc (pc := 65) (lv' := [(2, .int _), (0, .ref _), (1, .int _)]) X dX3_heir_65 3 rfl (congrArg (fun z => v3 + z) kc_1) (by decide) rfl (fun x8 => ?_)
              refine r_goto (pc := 68) (tgt := 21) X dX3_heir_68 (by decide) ?_
              refine r_sub [2, 3, 1, 0] rfl ?_
              exact ih v1 v3 x8 σ

set_option maxRecDepth 100000 in
theorem m_X3_heir {y : LY} {l : Launch}  {a0 : Int32} {σ : ST} {a : (Int32 × ST)} (h : T_X3_heir a0 σ = some a) : MU y l yX3_heir cX3_heir 4 (some .int) (rmd 3) [.ref (ad y 13), .int a0] σ (xI a) := by
  refine MU.of (φ := xI) h (by decide +kernel) rfl (fun E X Z hy => ?_)
  have X : CX y l E cX3_heir 4 RX3 (rmd 3) := X
  show WW y l E 4 _ 0 [(0, .ref (ad y 13)), (1, .int a0)] [] σ (T_X3_heir a0 σ)
  unfold T_X3_heir
  refine r_iload_n (pc := 0) X dX3_heir_0 1 rfl rfl ?_
  refine r_iconst (pc := 1) X dX3_heir_1 kc_0 ?_
  refine r_iconst (pc := 2) X dX3_heir_2 kc_1 ?_
  refine r_callsp (pc := 3) X dX3_heir_3 cf_X3_isIn ml_X3_113 (rf rfl rfl) hy (fun b hb => m_X3_isIn hb) rfl rfl (Nat.le_of_ble_eq_true rfl) (fun x1 => ?_)
  refine r_if_ne (pc := 6) (tgt := 16) X dX3_heir_6 (by decide) ?_ ?_
  · refine r_bipush (pc := 16) X dX3_heir_16 kb_m9 ?_
    refine r_istore_n (pc := 18) (lv' := [(2, .int _), (0, .ref _), (1, .int _)]) X dX3_heir_18 rfl (by decide) rfl ?_
    refine r_iconst (pc := 19) X dX3_heir_19 kc_0 ?_
    refine r_istore_n (pc := 20) (lv' := [(3, .int _), (2, .int _), (0, .ref _), (1, .int _)]) X dX3_heir_20 rfl (by decide) rfl ?_
    refine r_sub [2, 3, 1, 0] rfl ?_
    exact s_X3_heir_L21 X Z hy FU a0 ((-9)) 0 σ
  · refine r_aload_n (pc := 9) X dX3_heir_9 0 rfl rfl ?_
    refine r_bipush (pc := 10) X dX3_heir_10 kb_m2 ?_
    refine r_callvI (pc := 12) X dX3_heir_12 cf_X3_no ml_X3_102 (rf rfl rfl) hy oc_13.1 hc_3 (fun b hb => m_X3_no hb) rfl rfl (Nat.le_of_ble_eq_true rfl) (fun x3 σ4 => ?_)
    exact r_iret (pc := 15) X Z dX3_heir_15 rfl

set_option maxRecDepth 100000 in
theorem m_X3_apart {y : LY} {l : Launch}  {a0 : Int32} {a1 : Int32} {σ : ST} {a : Int32} (h : T_X3_apart σ a0 a1 = some a) : MU y l yX3_apart cX3_apart 4 (some .int) (rmd 0) [.ref (ad y 13), .int a0, .int a1] σ (xp σ a) := by
  refine MU.of (φ := xp σ) h (by decide +kernel) rfl (fun E X Z hy => ?_)
  have X : CX y l E cX3_apart 4 RX3 (rmd 0) := X
  show WW y l E 4 _ 0 [(0, .ref (ad y 13)), (1, .int a0), (2, .int a1)] [] σ (T_X3_apart σ a0 a1)
  unfold T_X3_apart
  refine r_aload_n (pc := 0) X dX3_apart_0 0 rfl rfl ?_
  refine r_geta (pc := 1) X dX3_apart_1 fl_X3_34 oc_13 (by decide) ?_
  refine r_iload_n (pc := 4) X dX3_apart_4 2 rfl rfl ?_
  refine r_iald (pc := 5) X dX3_apart_5 ar_13_8 (fun x1 => ?_)
  refine r_aload_n (pc := 6) X dX3_apart_6 0 rfl rfl ?_
  refine r_geta (pc := 7) X dX3_apart_7 fl_X3_34 oc_13 (by decide) ?_
  refine r_iload_n (pc := 10) X dX3_apart_10 1 rfl rfl ?_
  refine r_iald (pc := 11) X dX3_apart_11 ar_13_8 (fun x2 => ?_)
  refine r_isub (pc := 12) X dX3_apart_12 ?_
  refine r_bipush (pc := 13) X dX3_apart_13 kb_10 ?_
  refine r_iadd (pc := 15) X dX3_apart_15 ?_
  refine r_bipush (pc := 16) X dX3_apart_16 kb_10 ?_
  refine r_irem (pc := 18) X dX3_apart_18 (by decide) ?_
  refine r_vl (fun x3 => ?_)
  refine r_istore_n (pc := 19) (lv' := [(3, .int _), (0, .ref _), (1, .int _), (2, .int _)]) X dX3_apart_19 rfl (by decide) rfl ?_
  refine r_iload_n (pc := 20) X dX3_apart_20 0 rfl rfl ?_
  refine r_iconst (pc := 21) X dX3_apart_21 kc_5 ?_
  refine r_icmp_le (pc := 22) (tgt := 32) X dX3_apart_22 (by decide) ?_ ?_
  · refine r_iload_n (pc := 32) X dX3_apart_32 0 rfl rfl ?_
    exact r_iret (pc := 33) X Z dX3_apart_33 rfl
  · refine r_bipush (pc := 25) X dX3_apart_25 kb_10 ?_
    refine r_iload_n (pc := 27) X dX3_apart_27 0 rfl rfl ?_
    refine r_isub (pc := 28) X dX3_apart_28 ?_
    refine r_goto (pc := 29) (tgt := 33) X dX3_apart_29 (by decide) ?_
    exact r_iret (pc := 33) X Z dX3_apart_33 rfl

set_option maxRecDepth 100000 in
theorem s_X3_far_j16 {y : LY} {l : Launch} {E : ET} (X : CX y l E cX3_far 3 RX3 (rmd 1)) (Z : ZX E (some .int)) (hy : y.1 ≤ (eS E).heap.size)     (σ : ST) : WW y l E 3 (fun a => QM y E (xI a)) 16 [(0, .ref (ad y 13))] [] σ (T_X3_far_j16   σ) := by
  unfold T_X3_far_j16
  refine r_aload_n (pc := 16) X dX3_far_16 0 rfl rfl ?_
  refine r_iconst (pc := 17) X dX3_far_17 kc_m1 ?_
  refine r_callvI (pc := 18) X dX3_far_18 cf_X3_no ml_X3_102 (rf rfl rfl) hy oc_13.1 hc_3 (fun b hb => m_X3_no hb) rfl rfl (Nat.le_of_ble_eq_true rfl) (fun x1 σ2 => ?_)
  exact r_iret (pc := 21) X Z dX3_far_21 rfl

set_option maxRecDepth 100000 in
theorem m_X3_far {y : LY} {l : Launch}  {a0 : Int32} {a1 : Int32} {σ : ST} {a : (Int32 × ST)} (h : T_X3_far a0 a1 σ = some a) : MU y l yX3_far cX3_far 3 (some .int) (rmd 1) [.ref (ad y 13), .int a0, .int a1] σ (xI a) := by
  refine MU.of (φ := xI) h (by decide +kernel) rfl (fun E X Z hy => ?_)
  have X : CX y l E cX3_far 3 RX3 (rmd 1) := X
  show WW y l E 3 _ 0 [(0, .ref (ad y 13)), (1, .int a0), (2, .int a1)] [] σ (T_X3_far a0 a1 σ)
  unfold T_X3_far
  refine r_aload_n (pc := 0) X dX3_far_0 0 rfl rfl ?_
  refine r_iload_n (pc := 1) X dX3_far_1 1 rfl rfl ?_
  refine r_callvp (pc := 2) X dX3_far_2 cf_X3_isBearer ml_X3_91 (rf rfl rfl) hy oc_13.1 hc_3 (fun b hb => m_X3_isBearer hb) rfl rfl (Nat.le_of_ble_eq_true rfl) (fun x1 => ?_)
  refine r_if_eq (pc := 5) (tgt := 16) X dX3_far_5 (by decide) ?_ ?_
  · refine r_sub [0] rfl ?_
    exact s_X3_far_j16 X Z hy σ
  · refine r_aload_n (pc := 8) X dX3_far_8 0 rfl rfl ?_
    refine r_iload_n (pc := 9) X dX3_far_9 2 rfl rfl ?_
    refine r_callvp (pc := 10) X dX3_far_10 cf_X3_isBearer ml_X3_91 (rf rfl rfl) hy oc_13.1 hc_3 (fun b hb => m_X3_isBearer hb) rfl rfl (Nat.le_of_ble_eq_true rfl) (fun x3 => ?_)
    refine r_if_ne (pc := 13) (tgt := 22) X dX3_far_13 (by decide) ?_ ?_
    · refine r_aload_n (pc := 22) X dX3_far_22 0 rfl rfl ?_
      refine r_iload_n (pc := 23) X dX3_far_23 1 rfl rfl ?_
      refine r_iload_n (pc := 24) X dX3_far_24 2 rfl rfl ?_
      refine r_callvp (pc := 25) X dX3_far_25 cf_X3_apart ml_X3_347 (rf rfl rfl) hy oc_13.1 hc_3 (fun b hb => m_X3_apart hb) rfl rfl (Nat.le_of_ble_eq_true rfl) (fun x5 => ?_)
      exact r_iret (pc := 28) X Z dX3_far_28 rfl
    · refine r_sub [0] rfl ?_
      exact s_X3_far_j16 X Z hy σ

set_option maxRecDepth 100000 in
theorem s_X3_allBreath_L4 {y : LY} {l : Launch} {E : ET} (X : CX y l E cX3_allBreath 3 RX3 (rmd 0)) (Z : ZX E (some .int)) (hy : y.1 ≤ (eS E).heap.size)  {σ : ST}   (n : Nat) : ∀ (v1 : Int32) (v2 : Int32), WW y l E 3 (fun a => QM y E (xp σ a)) 4 [(0, .ref (ad y 13)), (1, .int v1), (2, .int v2)] [] σ (T_X3_allBreath_L4 σ n v1 v2) := by
  induction n with
  | zero => intros; exact r_none rfl
  | succ n ih =>
    intro v1 v2
    unfold T_X3_allBreath_L4
    refine r_iload_n (pc := 4) X dX3_allBreath_4 2 rfl rfl ?_
    refine r_aload_n (pc := 5) X dX3_allBreath_5 0 rfl rfl ?_
    refine r_geti (pc := 6) X dX3_allBreath_6 fl_X3_88 oc_13 rfl (fun x1 => ?_)
    refine r_icmp_ge (pc := 9) (tgt := 27) X dX3_allBreath_9 (by decide) ?_ ?_
    · refine r_iload_n (pc := 27) X dX3_allBreath_27 1 rfl rfl ?_
      exact r_iret (pc := 28) X Z dX3_allBreath_28 rfl
    · refine r_iload_n (pc := 12) X dX3_allBreath_12 1 rfl rfl ?_
      refine r_aload_n (pc := 13) X dX3_allBreath_13 0 rfl rfl ?_
      refine r_geta (pc := 14) X dX3_allBreath_14 fl_X3_40 oc_13 (by decide) ?_
      refine r_iload_n (pc := 17) X dX3_allBreath_17 2 rfl rfl ?_
      refine r_iald (pc := 18) X dX3_allBreath_18 ar_13_10 (fun x2 => ?_)
      refine r_iadd (pc := 19) X dX3_allBreath_19 ?_
      refine r_vl (fun x3 => ?_)
      refine r_istore_n (pc := 20) (lv' := [(1, .int _), (0, .ref _), (2, .int _)]) X dX3_allBreath_20 rfl (by decide) rfl ?_
      refine r_iinc (pc := 21) (lv' := [(1, .int _), (0, .ref _)]) X dX3_allBreath_21 2 rfl (congrArg (fun z => v2 + z) kc_1) (by decide) rfl (fun x4 => ?_)
      refine r_goto (pc := 24) (tgt := 4) X dX3_allBreath_24 (by decide) ?_
      refine r_sub [2, 1, 0] rfl ?_
      exact ih x3 x4

set_option maxRecDepth 100000 in
theorem m_X3_allBreath {y : LY} {l : Launch}   {σ : ST} {a : Int32} (h : T_X3_allBreath σ = some a) : MU y l yX3_allBreath cX3_allBreath 3 (some .int) (rmd 0) [.ref (ad y 13)] σ (xp σ a) := by
  refine MU.of (φ := xp σ) h (by decide +kernel) rfl (fun E X Z hy => ?_)
  have X : CX y l E cX3_allBreath 3 RX3 (rmd 0) := X
  show WW y l E 3 _ 0 [(0, .ref (ad y 13))] [] σ (T_X3_allBreath σ)
  unfold T_X3_allBreath
  refine r_iconst (pc := 0) X dX3_allBreath_0 kc_0 ?_
  refine r_istore_n (pc := 1) (lv' := [(1, .int _), (0, .ref _)]) X dX3_allBreath_1 rfl (by decide) rfl ?_
  refine r_iconst (pc := 2) X dX3_allBreath_2 kc_0 ?_
  refine r_istore_n (pc := 3) (lv' := [(2, .int _), (1, .int _), (0, .ref _)]) X dX3_allBreath_3 rfl (by decide) rfl ?_
  refine r_sub [2, 1, 0] rfl ?_
  exact s_X3_allBreath_L4 X Z hy FU 0 0

set_option maxRecDepth 100000 in
theorem m_X3_tired {y : LY} {l : Launch}  {a0 : Int32} {σ : ST} {a : (Int32 × ST)} (h : T_X3_tired a0 σ = some a) : MU y l yX3_tired cX3_tired 4 (some .int) (rmd 7) [.ref (ad y 13), .int a0] σ (xI a) := by
  refine MU.of (φ := xI) h (by decide +kernel) rfl (fun E X Z hy => ?_)
  have X : CX y l E cX3_tired 4 RX3 (rmd 7) := X
  show WW y l E 4 _ 0 [(0, .ref (ad y 13)), (1, .int a0)] [] σ (T_X3_tired a0 σ)
  unfold T_X3_tired
  refine r_iload_n (pc := 0) X dX3_tired_0 1 rfl rfl ?_
  refine r_callsp (pc := 1) X dX3_tired_1 cf_X3_notHours ml_X3_235 (rf rfl rfl) hy (fun b hb => m_X3_notHours hb) rfl rfl (Nat.le_of_ble_eq_true rfl) (fun x1 => ?_)
  refine r_istore_n (pc := 4) (lv' := [(2, .int _), (0, .ref _), (1, .int _)]) X dX3_tired_4 rfl (by decide) rfl ?_
  refine r_iload_n (pc := 5) X dX3_tired_5 0 rfl rfl ?_
  refine r_if_eq (pc := 6) (tgt := 15) X dX3_tired_6 (by decide) ?_ ?_
  · refine r_aload_n (pc := 15) X dX3_tired_15 1 rfl rfl ?_
    refine r_callvV (pc := 16) X dX3_tired_16 cf_X3_thinks ml_X3_238 (rf rfl rfl) hy oc_13.1 hc_3 (fun b hb => m_X3_thinks hb) rfl rfl (Nat.le_of_ble_eq_true rfl) (fun σ4 => ?_)
    refine r_aload_n (pc := 19) X dX3_tired_19 1 rfl rfl ?_
    refine r_iload_n (pc := 20) X dX3_tired_20 2 rfl rfl ?_
    refine r_callvV (pc := 21) X dX3_tired_21 cf_X3_goes ml_X3_232 (rf rfl rfl) hy oc_13.1 hc_3 (fun b hb => m_X3_goes hb) rfl rfl (Nat.le_of_ble_eq_true rfl) (fun σ6 => ?_)
    refine r_aload_n (pc := 24) X dX3_tired_24 1 rfl rfl ?_
    refine r_callvp (pc := 25) X dX3_tired_25 cf_X3_allBreath ml_X3_350 (rf rfl rfl) hy oc_13.1 hc_3 (fun b hb => m_X3_allBreath hb) rfl rfl (Nat.le_of_ble_eq_true rfl) (fun x7 => ?_)
    refine r_istore_n (pc := 28) (lv' := [(3, .int _), (2, .int _), (0, .ref _), (1, .int _)]) X dX3_tired_28 rfl (by decide) rfl ?_
    refine r_aload_n (pc := 29) X dX3_tired_29 2 rfl rfl ?_
    refine r_callvV (pc := 30) X dX3_tired_30 cf_X3_forgets ml_X3_241 (rf rfl rfl) hy oc_13.1 hc_3 (fun b hb => m_X3_forgets hb) rfl rfl (Nat.le_of_ble_eq_true rfl) (fun σ10 => ?_)
    refine r_iload_n (pc := 33) X dX3_tired_33 0 rfl rfl ?_
    exact r_iret (pc := 34) X Z dX3_tired_34 rfl
  · refine r_aload_n (pc := 9) X dX3_tired_9 1 rfl rfl ?_
    refine r_iload_n (pc := 10) X dX3_tired_10 0 rfl rfl ?_
    refine r_callvI (pc := 11) X dX3_tired_11 cf_X3_no ml_X3_102 (rf rfl rfl) hy oc_13.1 hc_3 (fun b hb => m_X3_no hb) rfl rfl (Nat.le_of_ble_eq_true rfl) (fun x11 σ12 => ?_)
    exact r_iret (pc := 14) X Z dX3_tired_14 rfl

set_option maxRecDepth 100000 in
theorem s_X3_visits_L47 {y : LY} {l : Launch} {E : ET} (X : CX y l E cX3_visits 7 RX3 (rmd 6)) (Z : ZX E (some .int)) (hy : y.1 ≤ (eS E).heap.size)     (n : Nat) : ∀ (v1 : Int32) (v2 : Int32) (v3 : Int32) (v5 : Int32) (v6 : Int32) (σ : ST), WW y l E 7 (fun a => QM y E (xI a)) 47 [(0, .ref (ad y 13)), (1, .int v1), (2, .int v2), (3, .int v3), (5, .int v5), (6, .int v6)] [] σ (T_X3_visits_L47  n v1 v2 v3 v5 v6 σ) := by
  induction n with
  | zero => intros; exact r_none rfl
  | succ n ih =>
    intro v1 v2 v3 v5 v6 σ
    unfold T_X3_visits_L47
    refine r_iload (pc := 47) X dX3_visits_47 5 rfl ?_
    refine r_iload_n (pc := 49) X dX3_visits_49 3 rfl rfl ?_
    refine r_icmp_ge (pc := 50) (tgt := 84) X dX3_visits_50 (by decide) ?_ ?_
    · refine r_aload_n (pc := 84) X dX3_visits_84 0 rfl rfl ?_
      refine r_callvV (pc := 85) X dX3_visits_85 cf_X3_forgets ml_X3_241 (rf rfl rfl) hy oc_13.1 hc_3 (fun b hb => m_X3_forgets hb) rfl rfl (Nat.le_of_ble_eq_true rfl) (fun σ2 => ?_)
      refine r_iload (pc := 88) X dX3_visits_88 4 rfl ?_
      exact r_iret (pc := 90) X Z dX3_visits_90 rfl
    · refine r_aload_n (pc := 53) X dX3_visits_53 0 rfl rfl ?_
      refine r_iconst (pc := 54) X dX3_visits_54 kc_0 ?_
      refine r_callvV (pc := 55) X dX3_visits_55 cf_X3_goesHour ml_X3_130 (rf rfl rfl) hy oc_13.1 hc_3 (fun b hb => m_X3_goesHour hb) rfl rfl (Nat.le_of_ble_eq_true rfl) (fun σ4 => ?_)
      refine r_iload (pc := 58) X dX3_visits_58 4 rfl ?_
      refine r_aload_n (pc := 60) X dX3_visits_60 0 rfl rfl ?_
      refine r_geta (pc := 61) X dX3_visits_61 fl_X3_34 oc_13 (by decide) ?_
      refine r_iload_n (pc := 64) X dX3_visits_64 1 rfl rfl ?_
      refine r_iald (pc := 65) X dX3_visits_65 ar_13_8 (fun x5 => ?_)
      refine r_iload_n (pc := 66) X dX3_visits_66 2 rfl rfl ?_
      refine r_icmp_ne (pc := 67) (tgt := 74) X dX3_visits_67 (by decide) ?_ ?_
      · refine r_iconst (pc := 74) X dX3_visits_74 kc_0 ?_
        refine r_iadd (pc := 75) X dX3_visits_75 ?_
        refine r_vl (fun x6 => ?_)
        refine r_istore (pc := 76) (lv' := [(5, .int _), (0, .ref _), (1, .int _), (2, .int _), (3, .int _), (6, .int _)]) X dX3_visits_76 (by decide) rfl ?_
        refine r_iinc (pc := 78) (lv' := [(5, .int _), (0, .ref _), (1, .int _), (2, .int _), (3, .int _)]) X dX3_visits_78 5 rfl (congrArg (fun z => v6 + z) kc_1) (by decide) rfl (fun x7 => ?_)
        refine r_goto (pc := 81) (tgt := 47) X dX3_visits_81 (by decide) ?_
        refine r_sub [2, 3, 4, 5, 1, 0] rfl ?_
        exact ih v1 v2 v3 x6 x7 σ4
      · refine r_iconst (pc := 70) X dX3_visits_70 kc_1 ?_
        refine r_goto (pc := 71) (tgt := 75) X dX3_visits_71 (by decide) ?_
        refine r_iadd (pc := 75) X dX3_visits_75 ?_
        refine r_vl (fun x8 => ?_)
        refine r_istore (pc := 76) (lv' := [(5, .int _), (0, .ref _), (1, .int _), (2, .int _), (3, .int _), (6, .int _)]) X dX3_visits_76 (by decide) rfl ?_
        refine r_iinc (pc := 78) (lv' := [(5, .int _), (0, .ref _), (1, .int _), (2, .int _), (3, .int _)]) X dX3_visits_78 5 rfl (congrArg (fun z => v6 + z) kc_1) (by decide) rfl (fun x9 => ?_)
        refine r_goto (pc := 81) (tgt := 47) X dX3_visits_81 (by decide) ?_
        refine r_sub [2, 3, 4, 5, 1, 0] rfl ?_
        exact ih v1 v2 v3 x8 x9 σ4

set_option maxRecDepth 100000 in
theorem s_X3_visits_j23 {y : LY} {l : Launch} {E : ET} (X : CX y l E cX3_visits 7 RX3 (rmd 6)) (Z : ZX E (some .int)) (hy : y.1 ≤ (eS E).heap.size)     (v1 : Int32) (v2 : Int32) (v3 : Int32) (s0 : Int32) (σ : ST) : WW y l E 7 (fun a => QM y E (xI a)) 23 [(0, .ref (ad y 13)), (1, .int v1), (2, .int v2), (3, .int v3)] [.int s0] σ (T_X3_visits_j23   v1 v2 v3 s0 σ) := by
  unfold T_X3_visits_j23
  refine r_istore (pc := 23) (lv' := [(4, .int _), (0, .ref _), (1, .int _), (2, .int _), (3, .int _)]) X dX3_visits_23 (by decide) rfl ?_
  refine r_iload (pc := 25) X dX3_visits_25 0 rfl ?_
  refine r_if_eq (pc := 27) (tgt := 37) X dX3_visits_27 (by decide) ?_ ?_
  · refine r_aload_n (pc := 37) X dX3_visits_37 1 rfl rfl ?_
    refine r_callvV (pc := 38) X dX3_visits_38 cf_X3_thinks ml_X3_238 (rf rfl rfl) hy oc_13.1 hc_3 (fun b hb => m_X3_thinks hb) rfl rfl (Nat.le_of_ble_eq_true rfl) (fun σ2 => ?_)
    refine r_iconst (pc := 41) X dX3_visits_41 kc_0 ?_
    refine r_istore (pc := 42) (lv' := [(5, .int _), (4, .int _), (0, .ref _), (1, .int _), (2, .int _), (3, .int _)]) X dX3_visits_42 (by decide) rfl ?_
    refine r_iconst (pc := 44) X dX3_visits_44 kc_0 ?_
    refine r_istore (pc := 45) (lv' := [(6, .int _), (5, .int _), (4, .int _), (0, .ref _), (1, .int _), (2, .int _), (3, .int _)]) X dX3_visits_45 (by decide) rfl ?_
    refine r_sub [3, 4, 5, 6, 1, 0] rfl ?_
    exact s_X3_visits_L47 X Z hy FU v1 v2 v3 0 0 σ2
  · refine r_aload_n (pc := 30) X dX3_visits_30 1 rfl rfl ?_
    refine r_iload (pc := 31) X dX3_visits_31 0 rfl ?_
    refine r_callvI (pc := 33) X dX3_visits_33 cf_X3_no ml_X3_102 (rf rfl rfl) hy oc_13.1 hc_3 (fun b hb => m_X3_no hb) rfl rfl (Nat.le_of_ble_eq_true rfl) (fun x3 σ4 => ?_)
    exact r_iret (pc := 36) X Z dX3_visits_36 rfl

set_option maxRecDepth 100000 in
theorem s_X3_visits_j15 {y : LY} {l : Launch} {E : ET} (X : CX y l E cX3_visits 7 RX3 (rmd 6)) (Z : ZX E (some .int)) (hy : y.1 ≤ (eS E).heap.size)     (v1 : Int32) (v2 : Int32) (v3 : Int32) (σ : ST) : WW y l E 7 (fun a => QM y E (xI a)) 15 [(0, .ref (ad y 13)), (1, .int v1), (2, .int v2), (3, .int v3)] [] σ (T_X3_visits_j15   v1 v2 v3 σ) := by
  unfold T_X3_visits_j15
  refine r_iconst (pc := 15) X dX3_visits_15 kc_m1 ?_
  refine r_goto (pc := 16) (tgt := 23) X dX3_visits_16 (by decide) ?_
  exact s_X3_visits_j23 X Z hy v1 v2 v3 ((-1)) σ

set_option maxRecDepth 100000 in
theorem m_X3_visits {y : LY} {l : Launch}  {a0 : Int32} {a1 : Int32} {a2 : Int32} {σ : ST} {a : (Int32 × ST)} (h : T_X3_visits a0 a1 a2 σ = some a) : MU y l yX3_visits cX3_visits 7 (some .int) (rmd 6) [.ref (ad y 13), .int a0, .int a1, .int a2] σ (xI a) := by
  refine MU.of (φ := xI) h (by decide +kernel) rfl (fun E X Z hy => ?_)
  have X : CX y l E cX3_visits 7 RX3 (rmd 6) := X
  show WW y l E 7 _ 0 [(0, .ref (ad y 13)), (1, .int a0), (2, .int a1), (3, .int a2)] [] σ (T_X3_visits a0 a1 a2 σ)
  unfold T_X3_visits
  refine r_aload_n (pc := 0) X dX3_visits_0 0 rfl rfl ?_
  refine r_iload_n (pc := 1) X dX3_visits_1 1 rfl rfl ?_
  refine r_callvp (pc := 2) X dX3_visits_2 cf_X3_isBearer ml_X3_91 (rf rfl rfl) hy oc_13.1 hc_3 (fun b hb => m_X3_isBearer hb) rfl rfl (Nat.le_of_ble_eq_true rfl) (fun x1 => ?_)
  refine r_if_eq (pc := 5) (tgt := 15) X dX3_visits_5 (by decide) ?_ ?_
  · exact s_X3_visits_j15 X Z hy a0 a1 a2 σ
  · refine r_iload_n (pc := 8) X dX3_visits_8 2 rfl rfl ?_
    refine r_callsp (pc := 9) X dX3_visits_9 cf_X3_isPlace ml_X3_226 (rf rfl rfl) hy (fun b hb => m_X3_isPlace hb) rfl rfl (Nat.le_of_ble_eq_true rfl) (fun x3 => ?_)
    refine r_if_ne (pc := 12) (tgt := 19) X dX3_visits_12 (by decide) ?_ ?_
    · refine r_iload_n (pc := 19) X dX3_visits_19 3 rfl rfl ?_
      refine r_callsp (pc := 20) X dX3_visits_20 cf_X3_notHours ml_X3_235 (rf rfl rfl) hy (fun b hb => m_X3_notHours hb) rfl rfl (Nat.le_of_ble_eq_true rfl) (fun x5 => ?_)
      exact s_X3_visits_j23 X Z hy a0 a1 a2 x5 σ
    · exact s_X3_visits_j15 X Z hy a0 a1 a2 σ

set_option maxRecDepth 100000 in
theorem s_X3_together_L41 {y : LY} {l : Launch} {E : ET} (X : CX y l E cX3_together 7 RX3 (rmd 6)) (Z : ZX E (some .int)) (hy : y.1 ≤ (eS E).heap.size)     (n : Nat) : ∀ (v1 : Int32) (v2 : Int32) (v3 : Int32) (v5 : Int32) (v6 : Int32) (σ : ST), WW y l E 7 (fun a => QM y E (xI a)) 41 [(0, .ref (ad y 13)), (1, .int v1), (2, .int v2), (3, .int v3), (5, .int v5), (6, .int v6)] [] σ (T_X3_together_L41  n v1 v2 v3 v5 v6 σ) := by
  induction n with
  | zero => intros; exact r_none rfl
  | succ n ih =>
    intro v1 v2 v3 v5 v6 σ
    unfold T_X3_together_L41
    refine r_iload (pc := 41) X dX3_together_41 5 rfl ?_
    refine r_iload_n (pc := 43) X dX3_together_43 3 rfl rfl ?_
    refine r_icmp_ge (pc := 44) (tgt := 83) X dX3_together_44 (by decide) ?_ ?_
    · refine r_aload_n (pc := 83) X dX3_together_83 0 rfl rfl ?_
      refine r_callvV (pc := 84) X dX3_together_84 cf_X3_forgets ml_X3_241 (rf rfl rfl) hy oc_13.1 hc_3 (fun b hb => m_X3_forgets hb) rfl rfl (Nat.le_of_ble_eq_true rfl) (fun σ2 => ?_)
      refine r_iload (pc := 87) X dX3_together_87 4 rfl ?_
      exact r_iret (pc := 89) X Z dX3_together_89 rfl
    · refine r_aload_n (pc := 47) X dX3_together_47 0 rfl rfl ?_
      refine r_iconst (pc := 48) X dX3_together_48 kc_0 ?_
      refine r_callvV (pc := 49) X dX3_together_49 cf_X3_goesHour ml_X3_130 (rf rfl rfl) hy oc_13.1 hc_3 (fun b hb => m_X3_goesHour hb) rfl rfl (Nat.le_of_ble_eq_true rfl) (fun σ4 => ?_)
      refine r_iload (pc := 52) X dX3_together_52 4 rfl ?_
      refine r_aload_n (pc := 54) X dX3_together_54 0 rfl rfl ?_
      refine r_geta (pc := 55) X dX3_together_55 fl_X3_34 oc_13 (by decide) ?_
      refine r_iload_n (pc := 58) X dX3_together_58 1 rfl rfl ?_
      refine r_iald (pc := 59) X dX3_together_59 ar_13_8 (fun x5 => ?_)
      refine r_aload_n (pc := 60) X dX3_together_60 0 rfl rfl ?_
      refine r_geta (pc := 61) X dX3_together_61 fl_X3_34 oc_13 (by decide) ?_
      refine r_iload_n (pc := 64) X dX3_together_64 2 rfl rfl ?_
      refine r_iald (pc := 65) X dX3_together_65 ar_13_8 (fun x6 => ?_)
      refine r_icmp_ne (pc := 66) (tgt := 73) X dX3_together_66 (by decide) ?_ ?_
      · refine r_iconst (pc := 73) X dX3_together_73 kc_0 ?_
        refine r_iadd (pc := 74) X dX3_together_74 ?_
        refine r_vl (fun x7 => ?_)
        refine r_istore (pc := 75) (lv' := [(5, .int _), (0, .ref _), (1, .int _), (2, .int _), (3, .int _), (6, .int _)]) X dX3_together_75 (by decide) rfl ?_
        refine r_iinc (pc := 77) (lv' := [(5, .int _), (0, .ref _), (1, .int _), (2, .int _), (3, .int _)]) X dX3_together_77 5 rfl (congrArg (fun z => v6 + z) kc_1) (by decide) rfl (fun x8 => ?_)
        refine r_goto (pc := 80) (tgt := 41) X dX3_together_80 (by decide) ?_
        refine r_sub [2, 3, 4, 5, 1, 0] rfl ?_
        exact ih v1 v2 v3 x7 x8 σ4
      · refine r_iconst (pc := 69) X dX3_together_69 kc_1 ?_
        refine r_goto (pc := 70) (tgt := 74) X dX3_together_70 (by decide) ?_
        refine r_iadd (pc := 74) X dX3_together_74 ?_
        refine r_vl (fun x9 => ?_)
        refine r_istore (pc := 75) (lv' := [(5, .int _), (0, .ref _), (1, .int _), (2, .int _), (3, .int _), (6, .int _)]) X dX3_together_75 (by decide) rfl ?_
        refine r_iinc (pc := 77) (lv' := [(5, .int _), (0, .ref _), (1, .int _), (2, .int _), (3, .int _)]) X dX3_together_77 5 rfl (congrArg (fun z => v6 + z) kc_1) (by decide) rfl (fun x10 => ?_)
        refine r_goto (pc := 80) (tgt := 41) X dX3_together_80 (by decide) ?_
        refine r_sub [2, 3, 4, 5, 1, 0] rfl ?_
        exact ih v1 v2 v3 x9 x10 σ4

set_option maxRecDepth 100000 in
theorem s_X3_together_j17 {y : LY} {l : Launch} {E : ET} (X : CX y l E cX3_together 7 RX3 (rmd 6)) (Z : ZX E (some .int)) (hy : y.1 ≤ (eS E).heap.size)     (v1 : Int32) (v2 : Int32) (v3 : Int32) (s0 : Int32) (σ : ST) : WW y l E 7 (fun a => QM y E (xI a)) 17 [(0, .ref (ad y 13)), (1, .int v1), (2, .int v2), (3, .int v3)] [.int s0] σ (T_X3_together_j17   v1 v2 v3 s0 σ) := by
  unfold T_X3_together_j17
  refine r_istore (pc := 17) (lv' := [(4, .int _), (0, .ref _), (1, .int _), (2, .int _), (3, .int _)]) X dX3_together_17 (by decide) rfl ?_
  refine r_iload (pc := 19) X dX3_together_19 0 rfl ?_
  refine r_if_eq (pc := 21) (tgt := 31) X dX3_together_21 (by decide) ?_ ?_
  · refine r_aload_n (pc := 31) X dX3_together_31 1 rfl rfl ?_
    refine r_callvV (pc := 32) X dX3_together_32 cf_X3_thinks ml_X3_238 (rf rfl rfl) hy oc_13.1 hc_3 (fun b hb => m_X3_thinks hb) rfl rfl (Nat.le_of_ble_eq_true rfl) (fun σ2 => ?_)
    refine r_iconst (pc := 35) X dX3_together_35 kc_0 ?_
    refine r_istore (pc := 36) (lv' := [(5, .int _), (4, .int _), (0, .ref _), (1, .int _), (2, .int _), (3, .int _)]) X dX3_together_36 (by decide) rfl ?_
    refine r_iconst (pc := 38) X dX3_together_38 kc_0 ?_
    refine r_istore (pc := 39) (lv' := [(6, .int _), (5, .int _), (4, .int _), (0, .ref _), (1, .int _), (2, .int _), (3, .int _)]) X dX3_together_39 (by decide) rfl ?_
    refine r_sub [3, 4, 5, 6, 1, 0] rfl ?_
    exact s_X3_together_L41 X Z hy FU v1 v2 v3 0 0 σ2
  · refine r_aload_n (pc := 24) X dX3_together_24 1 rfl rfl ?_
    refine r_iload (pc := 25) X dX3_together_25 0 rfl ?_
    refine r_callvI (pc := 27) X dX3_together_27 cf_X3_no ml_X3_102 (rf rfl rfl) hy oc_13.1 hc_3 (fun b hb => m_X3_no hb) rfl rfl (Nat.le_of_ble_eq_true rfl) (fun x3 σ4 => ?_)
    exact r_iret (pc := 30) X Z dX3_together_30 rfl

set_option maxRecDepth 100000 in
theorem m_X3_together {y : LY} {l : Launch}  {a0 : Int32} {a1 : Int32} {a2 : Int32} {σ : ST} {a : (Int32 × ST)} (h : T_X3_together a0 a1 a2 σ = some a) : MU y l yX3_together cX3_together 7 (some .int) (rmd 6) [.ref (ad y 13), .int a0, .int a1, .int a2] σ (xI a) := by
  refine MU.of (φ := xI) h (by decide +kernel) rfl (fun E X Z hy => ?_)
  have X : CX y l E cX3_together 7 RX3 (rmd 6) := X
  show WW y l E 7 _ 0 [(0, .ref (ad y 13)), (1, .int a0), (2, .int a1), (3, .int a2)] [] σ (T_X3_together a0 a1 a2 σ)
  unfold T_X3_together
  refine r_aload_n (pc := 0) X dX3_together_0 0 rfl rfl ?_
  refine r_iload_n (pc := 1) X dX3_together_1 1 rfl rfl ?_
  refine r_iload_n (pc := 2) X dX3_together_2 2 rfl rfl ?_
  refine r_callvp (pc := 3) X dX3_together_3 cf_X3_areTwo ml_X3_244 (rf rfl rfl) hy oc_13.1 hc_3 (fun b hb => m_X3_areTwo hb) rfl rfl (Nat.le_of_ble_eq_true rfl) (fun x1 => ?_)
  refine r_if_ne (pc := 6) (tgt := 13) X dX3_together_6 (by decide) ?_ ?_
  · refine r_iload_n (pc := 13) X dX3_together_13 3 rfl rfl ?_
    refine r_callsp (pc := 14) X dX3_together_14 cf_X3_notHours ml_X3_235 (rf rfl rfl) hy (fun b hb => m_X3_notHours hb) rfl rfl (Nat.le_of_ble_eq_true rfl) (fun x3 => ?_)
    exact s_X3_together_j17 X Z hy a0 a1 a2 x3 σ
  · refine r_iconst (pc := 9) X dX3_together_9 kc_m1 ?_
    refine r_goto (pc := 10) (tgt := 17) X dX3_together_10 (by decide) ?_
    exact s_X3_together_j17 X Z hy a0 a1 a2 ((-1)) σ

set_option maxRecDepth 100000 in
theorem s_X3_rests_j16 {y : LY} {l : Launch} {E : ET} (X : CX y l E cX3_rests 4 RX3 (rmd 8)) (Z : ZX E (some .int)) (hy : y.1 ≤ (eS E).heap.size)     (v1 : Int32) (v2 : Int32) (s0 : Int32) (σ : ST) : WW y l E 4 (fun a => QM y E (xI a)) 16 [(0, .ref (ad y 13)), (1, .int v1), (2, .int v2)] [.int s0] σ (T_X3_rests_j16   v1 v2 s0 σ) := by
  unfold T_X3_rests_j16
  refine r_istore_n (pc := 16) (lv' := [(3, .int _), (0, .ref _), (1, .int _), (2, .int _)]) X dX3_rests_16 rfl (by decide) rfl ?_
  refine r_iload_n (pc := 17) X dX3_rests_17 0 rfl rfl ?_
  refine r_if_eq (pc := 18) (tgt := 27) X dX3_rests_18 (by decide) ?_ ?_
  · refine r_aload_n (pc := 27) X dX3_rests_27 1 rfl rfl ?_
    refine r_iload_n (pc := 28) X dX3_rests_28 3 rfl rfl ?_
    refine r_callvI (pc := 29) X dX3_rests_29 cf_X3_snapsIn ml_X3_256 (rf rfl rfl) hy oc_13.1 hc_3 (fun b hb => m_X3_snapsIn hb) rfl rfl (Nat.le_of_ble_eq_true rfl) (fun x1 σ2 => ?_)
    refine r_pop (pc := 32) X dX3_rests_32 rfl ?_
    refine r_aload_n (pc := 33) X dX3_rests_33 1 rfl rfl ?_
    refine r_geta (pc := 34) X dX3_rests_34 fl_X3_61 oc_13 (by decide) ?_
    refine r_iload_n (pc := 37) X dX3_rests_37 2 rfl rfl ?_
    refine r_iald (pc := 38) X dX3_rests_38 ar_13_28 (fun x3 => ?_)
    exact r_iret (pc := 39) X Z dX3_rests_39 rfl
  · refine r_aload_n (pc := 21) X dX3_rests_21 1 rfl rfl ?_
    refine r_iload_n (pc := 22) X dX3_rests_22 0 rfl rfl ?_
    refine r_callvI (pc := 23) X dX3_rests_23 cf_X3_no ml_X3_102 (rf rfl rfl) hy oc_13.1 hc_3 (fun b hb => m_X3_no hb) rfl rfl (Nat.le_of_ble_eq_true rfl) (fun x4 σ5 => ?_)
    exact r_iret (pc := 26) X Z dX3_rests_26 rfl

set_option maxRecDepth 100000 in
theorem m_X3_rests {y : LY} {l : Launch}  {a0 : Int32} {a1 : Int32} {σ : ST} {a : (Int32 × ST)} (h : T_X3_rests a0 a1 σ = some a) : MU y l yX3_rests cX3_rests 4 (some .int) (rmd 8) [.ref (ad y 13), .int a0, .int a1] σ (xI a) := by
  refine MU.of (φ := xI) h (by decide +kernel) rfl (fun E X Z hy => ?_)
  have X : CX y l E cX3_rests 4 RX3 (rmd 8) := X
  show WW y l E 4 _ 0 [(0, .ref (ad y 13)), (1, .int a0), (2, .int a1)] [] σ (T_X3_rests a0 a1 σ)
  unfold T_X3_rests
  refine r_aload_n (pc := 0) X dX3_rests_0 0 rfl rfl ?_
  refine r_iload_n (pc := 1) X dX3_rests_1 1 rfl rfl ?_
  refine r_callvp (pc := 2) X dX3_rests_2 cf_X3_isBearer ml_X3_91 (rf rfl rfl) hy oc_13.1 hc_3 (fun b hb => m_X3_isBearer hb) rfl rfl (Nat.le_of_ble_eq_true rfl) (fun x1 => ?_)
  refine r_if_ne (pc := 5) (tgt := 12) X dX3_rests_5 (by decide) ?_ ?_
  · refine r_iload_n (pc := 12) X dX3_rests_12 2 rfl rfl ?_
    refine r_callsp (pc := 13) X dX3_rests_13 cf_X3_notHours ml_X3_235 (rf rfl rfl) hy (fun b hb => m_X3_notHours hb) rfl rfl (Nat.le_of_ble_eq_true rfl) (fun x3 => ?_)
    exact s_X3_rests_j16 X Z hy a0 a1 x3 σ
  · refine r_iconst (pc := 8) X dX3_rests_8 kc_m1 ?_
    refine r_goto (pc := 9) (tgt := 16) X dX3_rests_9 (by decide) ?_
    exact s_X3_rests_j16 X Z hy a0 a1 ((-1)) σ

set_option maxRecDepth 100000 in
theorem s_X3_firstSnap_j48 {y : LY} {l : Launch} {E : ET} (X : CX y l E cX3_firstSnap 3 RX3 (rmd 6)) (Z : ZX E (some .int)) (hy : y.1 ≤ (eS E).heap.size)     (v1 : Int32) (σ : ST) : WW y l E 3 (fun a => QM y E (xI a)) 48 [(0, .ref (ad y 13)), (1, .int v1)] [] σ (T_X3_firstSnap_j48   v1 σ) := by
  unfold T_X3_firstSnap_j48
  refine r_aload_n (pc := 48) X dX3_firstSnap_48 0 rfl rfl ?_
  refine r_callvV (pc := 49) X dX3_firstSnap_49 cf_X3_forgets ml_X3_241 (rf rfl rfl) hy oc_13.1 hc_3 (fun b hb => m_X3_forgets hb) rfl rfl (Nat.le_of_ble_eq_true rfl) (fun σ2 => ?_)
  refine r_iload_n (pc := 52) X dX3_firstSnap_52 1 rfl rfl ?_
  exact r_iret (pc := 53) X Z dX3_firstSnap_53 rfl

set_option maxRecDepth 100000 in
theorem s_X3_firstSnap_L13 {y : LY} {l : Launch} {E : ET} (X : CX y l E cX3_firstSnap 3 RX3 (rmd 6)) (Z : ZX E (some .int)) (hy : y.1 ≤ (eS E).heap.size)     (n : Nat) : ∀ (v1 : Int32) (v2 : Int32) (σ : ST), WW y l E 3 (fun a => QM y E (xI a)) 13 [(0, .ref (ad y 13)), (1, .int v1), (2, .int v2)] [] σ (T_X3_firstSnap_L13  n v1 v2 σ) := by
  induction n with
  | zero => intros; exact r_none rfl
  | succ n ih =>
    intro v1 v2 σ
    unfold T_X3_firstSnap_L13
    refine r_iload_n (pc := 13) X dX3_firstSnap_13 2 rfl rfl ?_
    refine r_bipush (pc := 14) X dX3_firstSnap_14 kb_60 ?_
    refine r_icmp_gt (pc := 16) (tgt := 48) X dX3_firstSnap_16 (by decide) ?_ ?_
    · refine r_sub [0, 1] rfl ?_
      exact s_X3_firstSnap_j48 X Z hy v1 σ
    · refine r_iload_n (pc := 19) X dX3_firstSnap_19 1 rfl rfl ?_
      refine r_if_ge (pc := 20) (tgt := 48) X dX3_firstSnap_20 (by decide) ?_ ?_
      · refine r_sub [0, 1] rfl ?_
        exact s_X3_firstSnap_j48 X Z hy v1 σ
      · refine r_aload_n (pc := 23) X dX3_firstSnap_23 0 rfl rfl ?_
        refine r_iconst (pc := 24) X dX3_firstSnap_24 kc_0 ?_
        refine r_callvV (pc := 25) X dX3_firstSnap_25 cf_X3_goesHour ml_X3_130 (rf rfl rfl) hy oc_13.1 hc_3 (fun b hb => m_X3_goesHour hb) rfl rfl (Nat.le_of_ble_eq_true rfl) (fun σ2 => ?_)
        refine r_aload_n (pc := 28) X dX3_firstSnap_28 0 rfl rfl ?_
        refine r_geti (pc := 29) X dX3_firstSnap_29 fl_X3_217 oc_13 rfl (fun x3 => ?_)
        refine r_if_le (pc := 32) (tgt := 39) X dX3_firstSnap_32 (by decide) ?_ ?_
        · refine r_bipush (pc := 39) X dX3_firstSnap_39 kb_m9 ?_
          refine r_istore_n (pc := 41) (lv' := [(1, .int _), (0, .ref _), (2, .int _)]) X dX3_firstSnap_41 rfl (by decide) rfl ?_
          refine r_iinc (pc := 42) (lv' := [(1, .int _), (0, .ref _)]) X dX3_firstSnap_42 2 rfl (congrArg (fun z => v2 + z) kc_1) (by decide) rfl (fun x4 => ?_)
          refine r_goto (pc := 45) (tgt := 13) X dX3_firstSnap_45 (by decide) ?_
          refine r_sub [2, 1, 0] rfl ?_
          exact ih ((-9)) x4 σ2
        · refine r_iload_n (pc := 35) X dX3_firstSnap_35 2 rfl rfl ?_
          refine r_goto (pc := 36) (tgt := 41) X dX3_firstSnap_36 (by decide) ?_
          refine r_istore_n (pc := 41) (lv' := [(1, .int _), (0, .ref _), (2, .int _)]) X dX3_firstSnap_41 rfl (by decide) rfl ?_
          refine r_iinc (pc := 42) (lv' := [(1, .int _), (0, .ref _)]) X dX3_firstSnap_42 2 rfl (congrArg (fun z => v2 + z) kc_1) (by decide) rfl (fun x5 => ?_)
          refine r_goto (pc := 45) (tgt := 13) X dX3_firstSnap_45 (by decide) ?_
          refine r_sub [2, 1, 0] rfl ?_
          exact ih v2 x5 σ2

set_option maxRecDepth 100000 in
theorem m_X3_firstSnap {y : LY} {l : Launch}   {σ : ST} {a : (Int32 × ST)} (h : T_X3_firstSnap σ = some a) : MU y l yX3_firstSnap cX3_firstSnap 3 (some .int) (rmd 6) [.ref (ad y 13)] σ (xI a) := by
  refine MU.of (φ := xI) h (by decide +kernel) rfl (fun E X Z hy => ?_)
  have X : CX y l E cX3_firstSnap 3 RX3 (rmd 6) := X
  show WW y l E 3 _ 0 [(0, .ref (ad y 13))] [] σ (T_X3_firstSnap σ)
  unfold T_X3_firstSnap
  refine r_aload_n (pc := 0) X dX3_firstSnap_0 0 rfl rfl ?_
  refine r_callvV (pc := 1) X dX3_firstSnap_1 cf_X3_thinks ml_X3_238 (rf rfl rfl) hy oc_13.1 hc_3 (fun b hb => m_X3_thinks hb) rfl rfl (Nat.le_of_ble_eq_true rfl) (fun σ2 => ?_)
  refine r_aload_n (pc := 4) X dX3_firstSnap_4 0 rfl rfl ?_
  refine r_callvV (pc := 5) X dX3_firstSnap_5 cf_X3_counts ml_X3_229 (rf rfl rfl) hy oc_13.1 hc_3 (fun b hb => m_X3_counts hb) rfl rfl (Nat.le_of_ble_eq_true rfl) (fun σ4 => ?_)
  refine r_bipush (pc := 8) X dX3_firstSnap_8 kb_m9 ?_
  refine r_istore_n (pc := 10) (lv' := [(1, .int _), (0, .ref _)]) X dX3_firstSnap_10 rfl (by decide) rfl ?_
  refine r_iconst (pc := 11) X dX3_firstSnap_11 kc_1 ?_
  refine r_istore_n (pc := 12) (lv' := [(2, .int _), (1, .int _), (0, .ref _)]) X dX3_firstSnap_12 rfl (by decide) rfl ?_
  refine r_sub [2, 1, 0] rfl ?_
  exact s_X3_firstSnap_L13 X Z hy FU ((-9)) 1 σ4

set_option maxRecDepth 100000 in
theorem s_X3_busy_L71 {y : LY} {l : Launch} {E : ET} (X : CX y l E cX3_busy 6 RX3 (rmd 6)) (Z : ZX E (some .int)) (hy : y.1 ≤ (eS E).heap.size)   {K62 : Int32 → Int32 → Int32 → ST → Option (Int32 × ST)} (hK62 : ∀ (v1 : Int32) (v2 : Int32) (v4 : Int32) (σ : ST), WW y l E 6 (fun a => QM y E (xI a)) 62 [(0, .ref (ad y 13)), (1, .int v1), (2, .int v2), (4, .int v4)] [] σ (K62 v1 v2 v4 σ)) (n : Nat) : ∀ (v1 : Int32) (v2 : Int32) (v4 : Int32) (v5 : Int32) (σ : ST), WW y l E 6 (fun a => QM y E (xI a)) 71 [(0, .ref (ad y 13)), (1, .int v1), (2, .int v2), (4, .int v4), (5, .int v5)] [] σ (T_X3_busy_L71 K62 n v1 v2 v4 v5 σ) := by
  induction n with
  | zero => intros; exact r_none rfl
  | succ n ih =>
    intro v1 v2 v4 v5 σ
    unfold T_X3_busy_L71
    refine r_iload (pc := 71) X dX3_busy_71 4 rfl ?_
    refine r_aload_n (pc := 73) X dX3_busy_73 0 rfl rfl ?_
    refine r_geti (pc := 74) X dX3_busy_74 fl_X3_88 oc_13 rfl (fun x1 => ?_)
    refine r_icmp_ge (pc := 77) (tgt := 102) X dX3_busy_77 (by decide) ?_ ?_
    · refine r_aload_n (pc := 102) X dX3_busy_102 0 rfl rfl ?_
      refine r_iconst (pc := 103) X dX3_busy_103 kc_0 ?_
      refine r_callvV (pc := 104) X dX3_busy_104 cf_X3_goesHour ml_X3_130 (rf rfl rfl) hy oc_13.1 hc_3 (fun b hb => m_X3_goesHour hb) rfl rfl (Nat.le_of_ble_eq_true rfl) (fun σ3 => ?_)
      refine r_iinc (pc := 107) (lv' := [(0, .ref _), (1, .int _), (2, .int _), (5, .int _)]) X dX3_busy_107 3 rfl (congrArg (fun z => v4 + z) kc_1) (by decide) rfl (fun x4 => ?_)
      refine r_goto (pc := 110) (tgt := 62) X dX3_busy_110 (by decide) ?_
      refine r_sub [1, 2, 3, 0] rfl ?_
      exact hK62 v1 v2 x4 σ3
    · refine r_aload_n (pc := 80) X dX3_busy_80 0 rfl rfl ?_
      refine r_geta (pc := 81) X dX3_busy_81 fl_X3_77 oc_13 (by decide) ?_
      refine r_aload_n (pc := 84) X dX3_busy_84 0 rfl rfl ?_
      refine r_geta (pc := 85) X dX3_busy_85 fl_X3_34 oc_13 (by decide) ?_
      refine r_iload (pc := 88) X dX3_busy_88 4 rfl ?_
      refine r_iald (pc := 90) X dX3_busy_90 ar_13_8 (fun x5 => ?_)
      refine r_dup2 (pc := 91) X dX3_busy_91 rfl rfl ?_
      refine r_iald (pc := 92) X dX3_busy_92 ar_13_36 (fun x6 => ?_)
      refine r_iconst (pc := 93) X dX3_busy_93 kc_1 ?_
      refine r_iadd (pc := 94) X dX3_busy_94 ?_
      refine r_iast (pc := 95) X dX3_busy_95 ar_13_36 (fun σ7 => ?_)
      refine r_iinc (pc := 96) (lv' := [(0, .ref _), (1, .int _), (2, .int _), (4, .int _)]) X dX3_busy_96 4 rfl (congrArg (fun z => v5 + z) kc_1) (by decide) rfl (fun x8 => ?_)
      refine r_goto (pc := 99) (tgt := 71) X dX3_busy_99 (by decide) ?_
      refine r_sub [1, 2, 3, 4, 0] rfl ?_
      exact ih v1 v2 v4 x8 σ7

set_option maxRecDepth 100000 in
theorem s_X3_busy_L123 {y : LY} {l : Launch} {E : ET} (X : CX y l E cX3_busy 6 RX3 (rmd 6)) (Z : ZX E (some .int)) (hy : y.1 ≤ (eS E).heap.size)     (n : Nat) : ∀ (v2 : Int32) (v4 : Int32) (v5 : Int32) (σ : ST), WW y l E 6 (fun a => QM y E (xI a)) 123 [(0, .ref (ad y 13)), (2, .int v2), (4, .int v4), (5, .int v5)] [] σ (T_X3_busy_L123  n v2 v4 v5 σ) := by
  induction n with
  | zero => intros; exact r_none rfl
  | succ n ih =>
    intro v2 v4 v5 σ
    unfold T_X3_busy_L123
    refine r_iload (pc := 123) X dX3_busy_123 3 rfl ?_
    refine r_bipush (pc := 125) X dX3_busy_125 kb_10 ?_
    refine r_icmp_ge (pc := 127) (tgt := 162) X dX3_busy_127 (by decide) ?_ ?_
    · refine r_iload_n (pc := 162) X dX3_busy_162 1 rfl rfl ?_
      refine r_if_ne (pc := 163) (tgt := 171) X dX3_busy_163 (by decide) ?_ ?_
      · refine r_aload_n (pc := 171) X dX3_busy_171 0 rfl rfl ?_
        refine r_geta (pc := 172) X dX3_busy_172 fl_X3_77 oc_13 (by decide) ?_
        refine r_iload (pc := 175) X dX3_busy_175 2 rfl ?_
        refine r_iald (pc := 177) X dX3_busy_177 ar_13_36 (fun x1 => ?_)
        exact r_iret (pc := 178) X Z dX3_busy_178 rfl
      · refine r_iload (pc := 166) X dX3_busy_166 2 rfl ?_
        refine r_goto (pc := 168) (tgt := 178) X dX3_busy_168 (by decide) ?_
        exact r_iret (pc := 178) X Z dX3_busy_178 rfl
    · refine r_aload_n (pc := 130) X dX3_busy_130 0 rfl rfl ?_
      refine r_geta (pc := 131) X dX3_busy_131 fl_X3_77 oc_13 (by decide) ?_
      refine r_iload (pc := 134) X dX3_busy_134 3 rfl ?_
      refine r_iald (pc := 136) X dX3_busy_136 ar_13_36 (fun x2 => ?_)
      refine r_aload_n (pc := 137) X dX3_busy_137 0 rfl rfl ?_
      refine r_geta (pc := 138) X dX3_busy_138 fl_X3_77 oc_13 (by decide) ?_
      refine r_iload (pc := 141) X dX3_busy_141 2 rfl ?_
      refine r_iald (pc := 143) X dX3_busy_143 ar_13_36 (fun x3 => ?_)
      refine r_icmp_le (pc := 144) (tgt := 152) X dX3_busy_144 (by decide) ?_ ?_
      · refine r_iload (pc := 152) X dX3_busy_152 2 rfl ?_
        refine r_istore (pc := 154) (lv' := [(4, .int _), (0, .ref _), (2, .int _), (5, .int _)]) X dX3_busy_154 (by decide) rfl ?_
        refine r_iinc (pc := 156) (lv' := [(4, .int _), (0, .ref _), (2, .int _)]) X dX3_busy_156 3 rfl (congrArg (fun z => v5 + z) kc_1) (by decide) rfl (fun x4 => ?_)
        refine r_goto (pc := 159) (tgt := 123) X dX3_busy_159 (by decide) ?_
        refine r_sub [2, 3, 1, 0] rfl ?_
        exact ih v2 v4 x4 σ
      · refine r_iload (pc := 147) X dX3_busy_147 3 rfl ?_
        refine r_goto (pc := 149) (tgt := 154) X dX3_busy_149 (by decide) ?_
        refine r_istore (pc := 154) (lv' := [(4, .int _), (0, .ref _), (2, .int _), (5, .int _)]) X dX3_busy_154 (by decide) rfl ?_
        refine r_iinc (pc := 156) (lv' := [(4, .int _), (0, .ref _), (2, .int _)]) X dX3_busy_156 3 rfl (congrArg (fun z => v5 + z) kc_1) (by decide) rfl (fun x5 => ?_)
        refine r_goto (pc := 159) (tgt := 123) X dX3_busy_159 (by decide) ?_
        refine r_sub [2, 3, 1, 0] rfl ?_
        exact ih v2 v5 x5 σ

set_option maxRecDepth 100000 in
theorem s_X3_busy_L62 {y : LY} {l : Launch} {E : ET} (X : CX y l E cX3_busy 6 RX3 (rmd 6)) (Z : ZX E (some .int)) (hy : y.1 ≤ (eS E).heap.size)     (n : Nat) : ∀ (v1 : Int32) (v2 : Int32) (v4 : Int32) (σ : ST), WW y l E 6 (fun a => QM y E (xI a)) 62 [(0, .ref (ad y 13)), (1, .int v1), (2, .int v2), (4, .int v4)] [] σ (T_X3_busy_L62  n v1 v2 v4 σ) := by
  induction n with
  | zero => intros; exact r_none rfl
  | succ n ih =>
    intro v1 v2 v4 σ
    unfold T_X3_busy_L62
    refine r_iload (pc := 62) X dX3_busy_62 3 rfl ?_
    refine r_iload_n (pc := 64) X dX3_busy_64 1 rfl rfl ?_
    refine r_icmp_gt (pc := 65) (tgt := 113) X dX3_busy_65 (by decide) ?_ ?_
    · refine r_aload_n (pc := 113) X dX3_busy_113 0 rfl rfl ?_
      refine r_callvV (pc := 114) X dX3_busy_114 cf_X3_forgets ml_X3_241 (rf rfl rfl) hy oc_13.1 hc_3 (fun b hb => m_X3_forgets hb) rfl rfl (Nat.le_of_ble_eq_true rfl) (fun σ2 => ?_)
      refine r_iconst (pc := 117) X dX3_busy_117 kc_0 ?_
      refine r_istore (pc := 118) (lv' := [(4, .int _), (0, .ref _), (1, .int _), (2, .int _)]) X dX3_busy_118 (by decide) rfl ?_
      refine r_iconst (pc := 120) X dX3_busy_120 kc_1 ?_
      refine r_istore (pc := 121) (lv' := [(5, .int _), (4, .int _), (0, .ref _), (1, .int _), (2, .int _)]) X dX3_busy_121 (by decide) rfl ?_
      refine r_sub [2, 4, 1, 0] rfl ?_
      exact s_X3_busy_L123 X Z hy FU v2 0 1 σ2
    · refine r_iconst (pc := 68) X dX3_busy_68 kc_0 ?_
      refine r_istore (pc := 69) (lv' := [(5, .int _), (0, .ref _), (1, .int _), (2, .int _), (4, .int _)]) X dX3_busy_69 (by decide) rfl ?_
      refine r_sub [1, 2, 3, 4, 0] rfl ?_
      exact s_X3_busy_L71 X Z hy (fun v1 v2 v4 s => ih v1 v2 v4 s) FU v1 v2 v4 0 σ

set_option maxRecDepth 100000 in
theorem s_X3_busy_L34 {y : LY} {l : Launch} {E : ET} (X : CX y l E cX3_busy 6 RX3 (rmd 6)) (Z : ZX E (some .int)) (hy : y.1 ≤ (eS E).heap.size)     (n : Nat) : ∀ (v1 : Int32) (v2 : Int32) (v4 : Int32) (σ : ST), WW y l E 6 (fun a => QM y E (xI a)) 34 [(0, .ref (ad y 13)), (1, .int v1), (2, .int v2), (4, .int v4)] [] σ (T_X3_busy_L34  n v1 v2 v4 σ) := by
  induction n with
  | zero => intros; exact r_none rfl
  | succ n ih =>
    intro v1 v2 v4 σ
    unfold T_X3_busy_L34
    refine r_iload (pc := 34) X dX3_busy_34 3 rfl ?_
    refine r_bipush (pc := 36) X dX3_busy_36 kb_10 ?_
    refine r_icmp_ge (pc := 38) (tgt := 55) X dX3_busy_38 (by decide) ?_ ?_
    · refine r_aload_n (pc := 55) X dX3_busy_55 0 rfl rfl ?_
      refine r_callvV (pc := 56) X dX3_busy_56 cf_X3_thinks ml_X3_238 (rf rfl rfl) hy oc_13.1 hc_3 (fun b hb => m_X3_thinks hb) rfl rfl (Nat.le_of_ble_eq_true rfl) (fun σ2 => ?_)
      refine r_iconst (pc := 59) X dX3_busy_59 kc_0 ?_
      refine r_istore (pc := 60) (lv' := [(4, .int _), (0, .ref _), (1, .int _), (2, .int _)]) X dX3_busy_60 (by decide) rfl ?_
      refine r_sub [1, 2, 3, 0] rfl ?_
      exact s_X3_busy_L62 X Z hy FU v1 v2 0 σ2
    · refine r_aload_n (pc := 41) X dX3_busy_41 0 rfl rfl ?_
      refine r_geta (pc := 42) X dX3_busy_42 fl_X3_77 oc_13 (by decide) ?_
      refine r_iload (pc := 45) X dX3_busy_45 3 rfl ?_
      refine r_iconst (pc := 47) X dX3_busy_47 kc_0 ?_
      refine r_iast (pc := 48) X dX3_busy_48 ar_13_36 (fun σ3 => ?_)
      refine r_iinc (pc := 49) (lv' := [(0, .ref _), (1, .int _), (2, .int _)]) X dX3_busy_49 3 rfl (congrArg (fun z => v4 + z) kc_1) (by decide) rfl (fun x4 => ?_)
      refine r_goto (pc := 52) (tgt := 34) X dX3_busy_52 (by decide) ?_
      refine r_sub [1, 2, 3, 0] rfl ?_
      exact ih v1 v2 x4 σ3

set_option maxRecDepth 100000 in
theorem s_X3_busy_j21 {y : LY} {l : Launch} {E : ET} (X : CX y l E cX3_busy 6 RX3 (rmd 6)) (Z : ZX E (some .int)) (hy : y.1 ≤ (eS E).heap.size)     (v1 : Int32) (v2 : Int32) (v3 : Int32) (σ : ST) : WW y l E 6 (fun a => QM y E (xI a)) 21 [(0, .ref (ad y 13)), (1, .int v1), (2, .int v2), (3, .int v3)] [] σ (T_X3_busy_j21   v1 v2 v3 σ) := by
  unfold T_X3_busy_j21
  refine r_iload_n (pc := 21) X dX3_busy_21 3 rfl rfl ?_
  refine r_if_eq (pc := 22) (tgt := 31) X dX3_busy_22 (by decide) ?_ ?_
  · refine r_iconst (pc := 31) X dX3_busy_31 kc_0 ?_
    refine r_istore (pc := 32) (lv' := [(4, .int _), (0, .ref _), (1, .int _), (2, .int _), (3, .int _)]) X dX3_busy_32 (by decide) rfl ?_
    refine r_sub [1, 2, 3, 0] rfl ?_
    exact s_X3_busy_L34 X Z hy FU v1 v2 0 σ
  · refine r_aload_n (pc := 25) X dX3_busy_25 0 rfl rfl ?_
    refine r_iload_n (pc := 26) X dX3_busy_26 3 rfl rfl ?_
    refine r_callvI (pc := 27) X dX3_busy_27 cf_X3_no ml_X3_102 (rf rfl rfl) hy oc_13.1 hc_3 (fun b hb => m_X3_no hb) rfl rfl (Nat.le_of_ble_eq_true rfl) (fun x1 σ2 => ?_)
    exact r_iret (pc := 30) X Z dX3_busy_30 rfl

set_option maxRecDepth 100000 in
theorem m_X3_busy {y : LY} {l : Launch}  {a0 : Int32} {a1 : Int32} {σ : ST} {a : (Int32 × ST)} (h : T_X3_busy a0 a1 σ = some a) : MU y l yX3_busy cX3_busy 6 (some .int) (rmd 6) [.ref (ad y 13), .int a0, .int a1] σ (xI a) := by
  refine MU.of (φ := xI) h (by decide +kernel) rfl (fun E X Z hy => ?_)
  have X : CX y l E cX3_busy 6 RX3 (rmd 6) := X
  show WW y l E 6 _ 0 [(0, .ref (ad y 13)), (1, .int a0), (2, .int a1)] [] σ (T_X3_busy a0 a1 σ)
  unfold T_X3_busy
  refine r_iload_n (pc := 0) X dX3_busy_0 1 rfl rfl ?_
  refine r_callsp (pc := 1) X dX3_busy_1 cf_X3_notHours ml_X3_235 (rf rfl rfl) hy (fun b hb => m_X3_notHours hb) rfl rfl (Nat.le_of_ble_eq_true rfl) (fun x1 => ?_)
  refine r_istore_n (pc := 4) (lv' := [(3, .int _), (0, .ref _), (1, .int _), (2, .int _)]) X dX3_busy_4 rfl (by decide) rfl ?_
  refine r_iload_n (pc := 5) X dX3_busy_5 0 rfl rfl ?_
  refine r_if_ne (pc := 6) (tgt := 21) X dX3_busy_6 (by decide) ?_ ?_
  · refine r_sub [1, 2, 3, 0] rfl ?_
    exact s_X3_busy_j21 X Z hy a0 a1 x1 σ
  · refine r_iload_n (pc := 9) X dX3_busy_9 3 rfl rfl ?_
    refine r_iconst (pc := 10) X dX3_busy_10 kc_0 ?_
    refine r_iconst (pc := 11) X dX3_busy_11 kc_1 ?_
    refine r_callsp (pc := 12) X dX3_busy_12 cf_X3_isIn ml_X3_113 (rf rfl rfl) hy (fun b hb => m_X3_isIn hb) rfl rfl (Nat.le_of_ble_eq_true rfl) (fun x3 => ?_)
    refine r_if_ne (pc := 15) (tgt := 21) X dX3_busy_15 (by decide) ?_ ?_
    · refine r_sub [1, 2, 3, 0] rfl ?_
      exact s_X3_busy_j21 X Z hy a0 a1 x1 σ
    · refine r_bipush (pc := 18) X dX3_busy_18 kb_m2 ?_
      refine r_istore_n (pc := 20) (lv' := [(3, .int _), (0, .ref _), (1, .int _), (2, .int _)]) X dX3_busy_20 rfl (by decide) rfl ?_
      refine r_sub [1, 2, 3, 0] rfl ?_
      exact s_X3_busy_j21 X Z hy a0 a1 ((-2)) σ

set_option maxRecDepth 100000 in
theorem s_X3_tamed_L43 {y : LY} {l : Launch} {E : ET} (X : CX y l E cX3_tamed 6 RX3 (rmd 4)) (Z : ZX E (some .int)) (hy : y.1 ≤ (eS E).heap.size)     (n : Nat) : ∀ (v1 : Int32) (v2 : Int32) (v3 : Int32) (v4 : Int32) (v5 : Int32) (σ : ST), WW y l E 6 (fun a => QM y E (xI a)) 43 [(0, .ref (ad y 13)), (1, .int v1), (2, .int v2), (3, .int v3), (4, .int v4), (5, .int v5)] [] σ (T_X3_tamed_L43  n v1 v2 v3 v4 v5 σ) := by
  induction n with
  | zero => intros; exact r_none rfl
  | succ n ih =>
    intro v1 v2 v3 v4 v5 σ
    unfold T_X3_tamed_L43
    refine r_iload (pc := 43) X dX3_tamed_43 5 rfl ?_
    refine r_bipush (pc := 45) X dX3_tamed_45 kb_10 ?_
    refine r_icmp_ge (pc := 47) (tgt := 81) X dX3_tamed_47 (by decide) ?_ ?_
    · refine r_aload_n (pc := 81) X dX3_tamed_81 0 rfl rfl ?_
      refine r_geta (pc := 82) X dX3_tamed_82 fl_X3_16 oc_13 (by decide) ?_
      refine r_iload_n (pc := 85) X dX3_tamed_85 1 rfl rfl ?_
      refine r_iload_n (pc := 86) X dX3_tamed_86 3 rfl rfl ?_
      refine r_iast (pc := 87) X dX3_tamed_87 ar_13_2 (fun σ1 => ?_)
      refine r_iload (pc := 88) X dX3_tamed_88 4 rfl ?_
      exact r_iret (pc := 90) X Z dX3_tamed_90 rfl
    · refine r_aload_n (pc := 50) X dX3_tamed_50 0 rfl rfl ?_
      refine r_geta (pc := 51) X dX3_tamed_51 fl_X3_16 oc_13 (by decide) ?_
      refine r_iload_n (pc := 54) X dX3_tamed_54 1 rfl rfl ?_
      refine r_iload (pc := 55) X dX3_tamed_55 5 rfl ?_
      refine r_iast (pc := 57) X dX3_tamed_57 ar_13_2 (fun σ2 => ?_)
      refine r_aload_n (pc := 58) X dX3_tamed_58 0 rfl rfl ?_
      refine r_iload_n (pc := 59) X dX3_tamed_59 2 rfl rfl ?_
      refine r_callvp (pc := 60) X dX3_tamed_60 cf_X3_isLed ml_X3_208 (rf rfl rfl) hy oc_13.1 hc_3 (fun b hb => m_X3_isLed hb) rfl rfl (Nat.le_of_ble_eq_true rfl) (fun x3 => ?_)
      refine r_if_eq (pc := 63) (tgt := 71) X dX3_tamed_63 (by decide) ?_ ?_
      · refine r_iload (pc := 71) X dX3_tamed_71 5 rfl ?_
        refine r_istore (pc := 73) (lv' := [(4, .int _), (0, .ref _), (1, .int _), (2, .int _), (3, .int _), (5, .int _)]) X dX3_tamed_73 (by decide) rfl ?_
        refine r_iinc (pc := 75) (lv' := [(4, .int _), (0, .ref _), (1, .int _), (2, .int _), (3, .int _)]) X dX3_tamed_75 5 rfl (congrArg (fun z => v5 + z) kc_1) (by decide) rfl (fun x5 => ?_)
        refine r_goto (pc := 78) (tgt := 43) X dX3_tamed_78 (by decide) ?_
        refine r_sub [2, 3, 4, 5, 1, 0] rfl ?_
        exact ih v1 v2 v3 v5 x5 σ2
      · refine r_iload (pc := 66) X dX3_tamed_66 4 rfl ?_
        refine r_goto (pc := 68) (tgt := 73) X dX3_tamed_68 (by decide) ?_
        refine r_istore (pc := 73) (lv' := [(4, .int _), (0, .ref _), (1, .int _), (2, .int _), (3, .int _), (5, .int _)]) X dX3_tamed_73 (by decide) rfl ?_
        refine r_iinc (pc := 75) (lv' := [(4, .int _), (0, .ref _), (1, .int _), (2, .int _), (3, .int _)]) X dX3_tamed_75 5 rfl (congrArg (fun z => v5 + z) kc_1) (by decide) rfl (fun x6 => ?_)
        refine r_goto (pc := 78) (tgt := 43) X dX3_tamed_78 (by decide) ?_
        refine r_sub [2, 3, 4, 5, 1, 0] rfl ?_
        exact ih v1 v2 v3 v4 x6 σ2

set_option maxRecDepth 100000 in
theorem m_X3_tamed {y : LY} {l : Launch}  {a0 : Int32} {σ : ST} {a : (Int32 × ST)} (h : T_X3_tamed a0 σ = some a) : MU y l yX3_tamed cX3_tamed 6 (some .int) (rmd 4) [.ref (ad y 13), .int a0] σ (xI a) := by
  refine MU.of (φ := xI) h (by decide +kernel) rfl (fun E X Z hy => ?_)
  have X : CX y l E cX3_tamed 6 RX3 (rmd 4) := X
  show WW y l E 6 _ 0 [(0, .ref (ad y 13)), (1, .int a0)] [] σ (T_X3_tamed a0 σ)
  unfold T_X3_tamed
  refine r_aload_n (pc := 0) X dX3_tamed_0 0 rfl rfl ?_
  refine r_iload_n (pc := 1) X dX3_tamed_1 1 rfl rfl ?_
  refine r_callvp (pc := 2) X dX3_tamed_2 cf_X3_isBag ml_X3_141 (rf rfl rfl) hy oc_13.1 hc_3 (fun b hb => m_X3_isBag hb) rfl rfl (Nat.le_of_ble_eq_true rfl) (fun x1 => ?_)
  refine r_if_ne (pc := 5) (tgt := 14) X dX3_tamed_5 (by decide) ?_ ?_
  · refine r_aload_n (pc := 14) X dX3_tamed_14 0 rfl rfl ?_
    refine r_iload_n (pc := 15) X dX3_tamed_15 1 rfl rfl ?_
    refine r_callvp (pc := 16) X dX3_tamed_16 cf_X3_whoHas ml_X3_188 (rf rfl rfl) hy oc_13.1 hc_3 (fun b hb => m_X3_whoHas hb) rfl rfl (Nat.le_of_ble_eq_true rfl) (fun x3 => ?_)
    refine r_istore_n (pc := 19) (lv' := [(2, .int _), (0, .ref _), (1, .int _)]) X dX3_tamed_19 rfl (by decide) rfl ?_
    refine r_iload_n (pc := 20) X dX3_tamed_20 0 rfl rfl ?_
    refine r_bipush (pc := 21) X dX3_tamed_21 kb_9 ?_
    refine r_icmp_ne (pc := 23) (tgt := 29) X dX3_tamed_23 (by decide) ?_ ?_
    · refine r_aload_n (pc := 29) X dX3_tamed_29 1 rfl rfl ?_
      refine r_geta (pc := 30) X dX3_tamed_30 fl_X3_16 oc_13 (by decide) ?_
      refine r_iload_n (pc := 33) X dX3_tamed_33 2 rfl rfl ?_
      refine r_iald (pc := 34) X dX3_tamed_34 ar_13_2 (fun x5 => ?_)
      refine r_istore_n (pc := 35) (lv' := [(3, .int _), (2, .int _), (0, .ref _), (1, .int _)]) X dX3_tamed_35 rfl (by decide) rfl ?_
      refine r_bipush (pc := 36) X dX3_tamed_36 kb_m9 ?_
      refine r_istore (pc := 38) (lv' := [(4, .int _), (3, .int _), (2, .int _), (0, .ref _), (1, .int _)]) X dX3_tamed_38 (by decide) rfl ?_
      refine r_iconst (pc := 40) X dX3_tamed_40 kc_0 ?_
      refine r_istore (pc := 41) (lv' := [(5, .int _), (4, .int _), (3, .int _), (2, .int _), (0, .ref _), (1, .int _)]) X dX3_tamed_41 (by decide) rfl ?_
      refine r_sub [4, 5, 3, 2, 1, 0] rfl ?_
      exact s_X3_tamed_L43 X Z hy FU a0 x3 x5 ((-9)) 0 σ
    · refine r_bipush (pc := 26) X dX3_tamed_26 kb_m9 ?_
      exact r_iret (pc := 28) X Z dX3_tamed_28 rfl
  · refine r_aload_n (pc := 8) X dX3_tamed_8 0 rfl rfl ?_
    refine r_iconst (pc := 9) X dX3_tamed_9 kc_m1 ?_
    refine r_callvI (pc := 10) X dX3_tamed_10 cf_X3_no ml_X3_102 (rf rfl rfl) hy oc_13.1 hc_3 (fun b hb => m_X3_no hb) rfl rfl (Nat.le_of_ble_eq_true rfl) (fun x6 σ7 => ?_)
    exact r_iret (pc := 13) X Z dX3_tamed_13 rfl

set_option maxRecDepth 100000 in
theorem s_X3_unled_L40 {y : LY} {l : Launch} {E : ET} (X : CX y l E cX3_unled 5 RX3 (rmd 1)) (Z : ZX E (some .int)) (hy : y.1 ≤ (eS E).heap.size)   {K23 : Int32 → ST → Option (Int32 × ST)} {K34 : Int32 → Int32 → ST → Option (Int32 × ST)} (hK23 : ∀ (v1 : Int32) (σ : ST), WW y l E 5 (fun a => QM y E (xI a)) 23 [(0, .ref (ad y 13)), (1, .int v1)] [] σ (K23 v1 σ)) (hK34 : ∀ (v1 : Int32) (v2 : Int32) (σ : ST), WW y l E 5 (fun a => QM y E (xI a)) 34 [(0, .ref (ad y 13)), (1, .int v1), (2, .int v2)] [] σ (K34 v1 v2 σ)) (n : Nat) : ∀ (v1 : Int32) (v2 : Int32) (v3 : Int32) (σ : ST), WW y l E 5 (fun a => QM y E (xI a)) 40 [(0, .ref (ad y 13)), (1, .int v1), (2, .int v2), (3, .int v3)] [] σ (T_X3_unled_L40 K23 K34 n v1 v2 v3 σ) := by
  induction n with
  | zero => intros; exact r_none rfl
  | succ n ih =>
    intro v1 v2 v3 σ
    unfold T_X3_unled_L40
    refine r_iload_n (pc := 40) X dX3_unled_40 3 rfl rfl ?_
    refine r_aload_n (pc := 41) X dX3_unled_41 0 rfl rfl ?_
    refine r_geti (pc := 42) X dX3_unled_42 fl_X3_83 oc_13 rfl (fun x1 => ?_)
    refine r_icmp_ge (pc := 45) (tgt := 123) X dX3_unled_45 (by decide) ?_ ?_
    · refine r_iinc (pc := 123) (lv' := [(0, .ref _), (1, .int _), (3, .int _)]) X dX3_unled_123 2 rfl (congrArg (fun z => v2 + z) kc_m1) (by decide) rfl (fun x2 => ?_)
      refine r_goto (pc := 126) (tgt := 34) X dX3_unled_126 (by decide) ?_
      refine r_sub [1, 2, 0] rfl ?_
      exact hK34 v1 x2 σ
    · refine r_iload_n (pc := 48) X dX3_unled_48 2 rfl rfl ?_
      refine r_iload_n (pc := 49) X dX3_unled_49 3 rfl rfl ?_
      refine r_ishr (pc := 50) X dX3_unled_50 rfl ?_
      refine r_iconst (pc := 51) X dX3_unled_51 kc_1 ?_
      refine r_iand (pc := 52) X dX3_unled_52 ?_
      refine r_if_eq (pc := 53) (tgt := 117) X dX3_unled_53 (by decide) ?_ ?_
      · refine r_iinc (pc := 117) (lv' := [(0, .ref _), (1, .int _), (2, .int _)]) X dX3_unled_117 3 rfl (congrArg (fun z => v3 + z) kc_1) (by decide) rfl (fun x3 => ?_)
        refine r_goto (pc := 120) (tgt := 40) X dX3_unled_120 (by decide) ?_
        refine r_sub [1, 2, 3, 0] rfl ?_
        exact ih v1 v2 x3 σ
      · refine r_aload_n (pc := 56) X dX3_unled_56 0 rfl rfl ?_
        refine r_iload_n (pc := 57) X dX3_unled_57 3 rfl rfl ?_
        refine r_callvp (pc := 58) X dX3_unled_58 cf_X3_plainPull ml_X3_299 (rf rfl rfl) hy oc_13.1 hc_3 (fun b hb => m_X3_plainPull hb) rfl rfl (Nat.le_of_ble_eq_true rfl) (fun x4 => ?_)
        refine r_aload_n (pc := 61) X dX3_unled_61 0 rfl rfl ?_
        refine r_geta (pc := 62) X dX3_unled_62 fl_X3_28 oc_13 (by decide) ?_
        refine r_iload_n (pc := 65) X dX3_unled_65 1 rfl rfl ?_
        refine r_iald (pc := 66) X dX3_unled_66 ar_13_6 (fun x6 => ?_)
        refine r_icmp_le (pc := 67) (tgt := 73) X dX3_unled_67 (by decide) ?_ ?_
        · refine r_aload_n (pc := 73) X dX3_unled_73 0 rfl rfl ?_
          refine r_geta (pc := 74) X dX3_unled_74 fl_X3_80 oc_13 (by decide) ?_
          refine r_iload_n (pc := 77) X dX3_unled_77 2 rfl rfl ?_
          refine r_iconst (pc := 78) X dX3_unled_78 kc_1 ?_
          refine r_iload_n (pc := 79) X dX3_unled_79 3 rfl rfl ?_
          refine r_ishl (pc := 80) X dX3_unled_80 rfl ?_
          refine r_iconst (pc := 81) X dX3_unled_81 kc_m1 ?_
          refine r_ixor (pc := 82) X dX3_unled_82 ?_
          refine r_iand (pc := 83) X dX3_unled_83 ?_
          refine r_iald (pc := 84) X dX3_unled_84 ar_13_37 (fun x7 => ?_)
          refine r_iconst (pc := 85) X dX3_unled_85 kc_1 ?_
          refine r_iadd (pc := 86) X dX3_unled_86 ?_
          refine r_vl (fun x8 => ?_)
          refine r_istore (pc := 87) (lv' := [(4, .int _), (0, .ref _), (1, .int _), (2, .int _), (3, .int _)]) X dX3_unled_87 (by decide) rfl ?_
          refine r_aload_n (pc := 89) X dX3_unled_89 1 rfl rfl ?_
          refine r_geta (pc := 90) X dX3_unled_90 fl_X3_80 oc_13 (by decide) ?_
          refine r_iload_n (pc := 93) X dX3_unled_93 3 rfl rfl ?_
          refine r_iload (pc := 94) X dX3_unled_94 0 rfl ?_
          refine r_aload_n (pc := 96) X dX3_unled_96 1 rfl rfl ?_
          refine r_geta (pc := 97) X dX3_unled_97 fl_X3_80 oc_13 (by decide) ?_
          refine r_iload_n (pc := 100) X dX3_unled_100 3 rfl rfl ?_
          refine r_iald (pc := 101) X dX3_unled_101 ar_13_37 (fun x9 => ?_)
          refine r_icmp_le (pc := 102) (tgt := 110) X dX3_unled_102 (by decide) ?_ ?_
          · refine r_aload_n (pc := 110) X dX3_unled_110 1 rfl rfl ?_
            refine r_geta (pc := 111) X dX3_unled_111 fl_X3_80 oc_13 (by decide) ?_
            refine r_iload_n (pc := 114) X dX3_unled_114 3 rfl rfl ?_
            refine r_iald (pc := 115) X dX3_unled_115 ar_13_37 (fun x10 => ?_)
            refine r_iast (pc := 116) X dX3_unled_116 ar_13_37 (fun σ11 => ?_)
            refine r_iinc (pc := 117) (lv' := [(4, .int _), (0, .ref _), (1, .int _), (2, .int _)]) X dX3_unled_117 4 rfl (congrArg (fun z => v3 + z) kc_1) (by decide) rfl (fun x12 => ?_)
            refine r_goto (pc := 120) (tgt := 40) X dX3_unled_120 (by decide) ?_
            refine r_sub [2, 3, 4, 0] rfl ?_
            exact ih v1 v2 x12 σ11
          · refine r_iload (pc := 105) X dX3_unled_105 0 rfl ?_
            refine r_goto (pc := 107) (tgt := 116) X dX3_unled_107 (by decide) ?_
            refine r_iast (pc := 116) X dX3_unled_116 ar_13_37 (fun σ13 => ?_)
            refine r_iinc (pc := 117) (lv' := [(4, .int _), (0, .ref _), (1, .int _), (2, .int _)]) X dX3_unled_117 4 rfl (congrArg (fun z => v3 + z) kc_1) (by decide) rfl (fun x14 => ?_)
            refine r_goto (pc := 120) (tgt := 40) X dX3_unled_120 (by decide) ?_
            refine r_sub [2, 3, 4, 0] rfl ?_
            exact ih v1 v2 x14 σ13
        · refine r_goto (pc := 70) (tgt := 117) X dX3_unled_70 (by decide) ?_
          refine r_iinc (pc := 117) (lv' := [(0, .ref _), (1, .int _), (2, .int _)]) X dX3_unled_117 3 rfl (congrArg (fun z => v3 + z) kc_1) (by decide) rfl (fun x15 => ?_)
          refine r_goto (pc := 120) (tgt := 40) X dX3_unled_120 (by decide) ?_
          refine r_sub [1, 2, 3, 0] rfl ?_
          exact ih v1 v2 x15 σ

set_option maxRecDepth 100000 in
theorem s_X3_unled_L34 {y : LY} {l : Launch} {E : ET} (X : CX y l E cX3_unled 5 RX3 (rmd 1)) (Z : ZX E (some .int)) (hy : y.1 ≤ (eS E).heap.size)   {K23 : Int32 → ST → Option (Int32 × ST)} (hK23 : ∀ (v1 : Int32) (σ : ST), WW y l E 5 (fun a => QM y E (xI a)) 23 [(0, .ref (ad y 13)), (1, .int v1)] [] σ (K23 v1 σ)) (n : Nat) : ∀ (v1 : Int32) (v2 : Int32) (σ : ST), WW y l E 5 (fun a => QM y E (xI a)) 34 [(0, .ref (ad y 13)), (1, .int v1), (2, .int v2)] [] σ (T_X3_unled_L34 K23 n v1 v2 σ) := by
  induction n with
  | zero => intros; exact r_none rfl
  | succ n ih =>
    intro v1 v2 σ
    unfold T_X3_unled_L34
    refine r_iload_n (pc := 34) X dX3_unled_34 2 rfl rfl ?_
    refine r_if_lt (pc := 35) (tgt := 129) X dX3_unled_35 (by decide) ?_ ?_
    · refine r_iinc (pc := 129) (lv' := [(0, .ref _), (2, .int _)]) X dX3_unled_129 1 rfl (congrArg (fun z => v1 + z) kc_1) (by decide) rfl (fun x1 => ?_)
      refine r_goto (pc := 132) (tgt := 23) X dX3_unled_132 (by decide) ?_
      refine r_sub [1, 0] rfl ?_
      exact hK23 x1 σ
    · refine r_iconst (pc := 38) X dX3_unled_38 kc_0 ?_
      refine r_istore_n (pc := 39) (lv' := [(3, .int _), (0, .ref _), (1, .int _), (2, .int _)]) X dX3_unled_39 rfl (by decide) rfl ?_
      refine r_sub [1, 2, 3, 0] rfl ?_
      exact s_X3_unled_L40 X Z hy hK23 (fun v1 v2 s => ih v1 v2 s) FU v1 v2 0 σ

set_option maxRecDepth 100000 in
theorem s_X3_unled_L23 {y : LY} {l : Launch} {E : ET} (X : CX y l E cX3_unled 5 RX3 (rmd 1)) (Z : ZX E (some .int)) (hy : y.1 ≤ (eS E).heap.size)     (n : Nat) : ∀ (v1 : Int32) (σ : ST), WW y l E 5 (fun a => QM y E (xI a)) 23 [(0, .ref (ad y 13)), (1, .int v1)] [] σ (T_X3_unled_L23  n v1 σ) := by
  induction n with
  | zero => intros; exact r_none rfl
  | succ n ih =>
    intro v1 σ
    unfold T_X3_unled_L23
    refine r_iload_n (pc := 23) X dX3_unled_23 1 rfl rfl ?_
    refine r_aload_n (pc := 24) X dX3_unled_24 0 rfl rfl ?_
    refine r_geti (pc := 25) X dX3_unled_25 fl_X3_88 oc_13 rfl (fun x1 => ?_)
    refine r_icmp_ge (pc := 28) (tgt := 135) X dX3_unled_28 (by decide) ?_ ?_
    · refine r_aload_n (pc := 135) X dX3_unled_135 0 rfl rfl ?_
      refine r_geta (pc := 136) X dX3_unled_136 fl_X3_80 oc_13 (by decide) ?_
      refine r_bipush (pc := 139) X dX3_unled_139 kb_63 ?_
      refine r_iald (pc := 141) X dX3_unled_141 ar_13_37 (fun x2 => ?_)
      exact r_iret (pc := 142) X Z dX3_unled_142 rfl
    · refine r_bipush (pc := 31) X dX3_unled_31 kb_63 ?_
      refine r_istore_n (pc := 33) (lv' := [(2, .int _), (0, .ref _), (1, .int _)]) X dX3_unled_33 rfl (by decide) rfl ?_
      refine r_sub [1, 2, 0] rfl ?_
      exact s_X3_unled_L34 X Z hy (fun v1 s => ih v1 s) FU v1 63 σ

set_option maxRecDepth 100000 in
theorem s_X3_unled_L2 {y : LY} {l : Launch} {E : ET} (X : CX y l E cX3_unled 5 RX3 (rmd 1)) (Z : ZX E (some .int)) (hy : y.1 ≤ (eS E).heap.size)     (n : Nat) : ∀ (v1 : Int32) (σ : ST), WW y l E 5 (fun a => QM y E (xI a)) 2 [(0, .ref (ad y 13)), (1, .int v1)] [] σ (T_X3_unled_L2  n v1 σ) := by
  induction n with
  | zero => intros; exact r_none rfl
  | succ n ih =>
    intro v1 σ
    unfold T_X3_unled_L2
    refine r_iload_n (pc := 2) X dX3_unled_2 1 rfl rfl ?_
    refine r_bipush (pc := 3) X dX3_unled_3 kb_64 ?_
    refine r_icmp_ge (pc := 5) (tgt := 21) X dX3_unled_5 (by decide) ?_ ?_
    · refine r_iconst (pc := 21) X dX3_unled_21 kc_0 ?_
      refine r_istore_n (pc := 22) (lv' := [(1, .int _), (0, .ref _)]) X dX3_unled_22 rfl (by decide) rfl ?_
      refine r_sub [1, 0] rfl ?_
      exact s_X3_unled_L23 X Z hy FU 0 σ
    · refine r_aload_n (pc := 8) X dX3_unled_8 0 rfl rfl ?_
      refine r_geta (pc := 9) X dX3_unled_9 fl_X3_80 oc_13 (by decide) ?_
      refine r_iload_n (pc := 12) X dX3_unled_12 1 rfl rfl ?_
      refine r_iconst (pc := 13) X dX3_unled_13 kc_0 ?_
      refine r_iast (pc := 14) X dX3_unled_14 ar_13_37 (fun σ1 => ?_)
      refine r_iinc (pc := 15) (lv' := [(0, .ref _)]) X dX3_unled_15 1 rfl (congrArg (fun z => v1 + z) kc_1) (by decide) rfl (fun x2 => ?_)
      refine r_goto (pc := 18) (tgt := 2) X dX3_unled_18 (by decide) ?_
      refine r_sub [1, 0] rfl ?_
      exact ih x2 σ1

set_option maxRecDepth 100000 in
theorem m_X3_unled {y : LY} {l : Launch}   {σ : ST} {a : (Int32 × ST)} (h : T_X3_unled σ = some a) : MU y l yX3_unled cX3_unled 5 (some .int) (rmd 1) [.ref (ad y 13)] σ (xI a) := by
  refine MU.of (φ := xI) h (by decide +kernel) rfl (fun E X Z hy => ?_)
  have X : CX y l E cX3_unled 5 RX3 (rmd 1) := X
  show WW y l E 5 _ 0 [(0, .ref (ad y 13))] [] σ (T_X3_unled σ)
  unfold T_X3_unled
  refine r_iconst (pc := 0) X dX3_unled_0 kc_0 ?_
  refine r_istore_n (pc := 1) (lv' := [(1, .int _), (0, .ref _)]) X dX3_unled_1 rfl (by decide) rfl ?_
  refine r_sub [1, 0] rfl ?_
  exact s_X3_unled_L2 X Z hy FU 0 σ

set_option maxRecDepth 100000 in
theorem s_X3_areAtOne_L2 {y : LY} {l : Launch} {E : ET} (X : CX y l E cX3_areAtOne 2 RX3 (rmd 0)) (Z : ZX E (some .boolean)) (hy : y.1 ≤ (eS E).heap.size)  {σ : ST}   (n : Nat) : ∀ (v1 : Int32), WW y l E 2 (fun a => QM y E (xp σ a)) 2 [(0, .ref (ad y 13)), (1, .int v1)] [] σ (T_X3_areAtOne_L2 σ n v1) := by
  induction n with
  | zero => intros; exact r_none rfl
  | succ n ih =>
    intro v1
    unfold T_X3_areAtOne_L2
    refine r_iload_n (pc := 2) X dX3_areAtOne_2 1 rfl rfl ?_
    refine r_aload_n (pc := 3) X dX3_areAtOne_3 0 rfl rfl ?_
    refine r_geti (pc := 4) X dX3_areAtOne_4 fl_X3_88 oc_13 rfl (fun x1 => ?_)
    refine r_icmp_ge (pc := 7) (tgt := 33) X dX3_areAtOne_7 (by decide) ?_ ?_
    · refine r_iconst (pc := 33) X dX3_areAtOne_33 kc_1 ?_
      exact r_zret (pc := 34) X Z dX3_areAtOne_34 rfl (Or.inr rfl)
    · refine r_aload_n (pc := 10) X dX3_areAtOne_10 0 rfl rfl ?_
      refine r_geta (pc := 11) X dX3_areAtOne_11 fl_X3_34 oc_13 (by decide) ?_
      refine r_iload_n (pc := 14) X dX3_areAtOne_14 1 rfl rfl ?_
      refine r_iald (pc := 15) X dX3_areAtOne_15 ar_13_8 (fun x2 => ?_)
      refine r_aload_n (pc := 16) X dX3_areAtOne_16 0 rfl rfl ?_
      refine r_geta (pc := 17) X dX3_areAtOne_17 fl_X3_34 oc_13 (by decide) ?_
      refine r_iconst (pc := 20) X dX3_areAtOne_20 kc_0 ?_
      refine r_iald (pc := 21) X dX3_areAtOne_21 ar_13_8 (fun x3 => ?_)
      refine r_icmp_eq (pc := 22) (tgt := 27) X dX3_areAtOne_22 (by decide) ?_ ?_
      · refine r_iinc (pc := 27) (lv' := [(0, .ref _)]) X dX3_areAtOne_27 1 rfl (congrArg (fun z => v1 + z) kc_1) (by decide) rfl (fun x4 => ?_)
        refine r_goto (pc := 30) (tgt := 2) X dX3_areAtOne_30 (by decide) ?_
        refine r_sub [1, 0] rfl ?_
        exact ih x4
      · refine r_iconst (pc := 25) X dX3_areAtOne_25 kc_0 ?_
        exact r_zret (pc := 26) X Z dX3_areAtOne_26 rfl (Or.inl rfl)

set_option maxRecDepth 100000 in
theorem m_X3_areAtOne {y : LY} {l : Launch}   {σ : ST} {a : Int32} (h : T_X3_areAtOne σ = some a) : MU y l yX3_areAtOne cX3_areAtOne 2 (some .boolean) (rmd 0) [.ref (ad y 13)] σ (xp σ a) := by
  refine MU.of (φ := xp σ) h (by decide +kernel) rfl (fun E X Z hy => ?_)
  have X : CX y l E cX3_areAtOne 2 RX3 (rmd 0) := X
  show WW y l E 2 _ 0 [(0, .ref (ad y 13))] [] σ (T_X3_areAtOne σ)
  unfold T_X3_areAtOne
  refine r_iconst (pc := 0) X dX3_areAtOne_0 kc_1 ?_
  refine r_istore_n (pc := 1) (lv' := [(1, .int _), (0, .ref _)]) X dX3_areAtOne_1 rfl (by decide) rfl ?_
  refine r_sub [1, 0] rfl ?_
  exact s_X3_areAtOne_L2 X Z hy FU 1

set_option maxRecDepth 100000 in
theorem s_X3_gathering_j32 {y : LY} {l : Launch} {E : ET} (X : CX y l E cX3_gathering 3 RX3 (rmd 6)) (Z : ZX E (some .int)) (hy : y.1 ≤ (eS E).heap.size)   {K9 : Int32 → Int32 → ST → Option (Int32 × ST)} (hK9 : ∀ (v1 : Int32) (v2 : Int32) (σ : ST), WW y l E 3 (fun a => QM y E (xI a)) 9 [(0, .ref (ad y 13)), (1, .int v1), (2, .int v2)] [] σ (K9 v1 v2 σ)) (v2 : Int32) (s0 : Int32) (σ : ST) : WW y l E 3 (fun a => QM y E (xI a)) 32 [(0, .ref (ad y 13)), (2, .int v2)] [.int s0] σ (T_X3_gathering_j32 K9  v2 s0 σ) := by
  unfold T_X3_gathering_j32
  refine r_istore_n (pc := 32) (lv' := [(1, .int _), (0, .ref _), (2, .int _)]) X dX3_gathering_32 rfl (by decide) rfl ?_
  refine r_aload_n (pc := 33) X dX3_gathering_33 1 rfl rfl ?_
  refine r_iconst (pc := 34) X dX3_gathering_34 kc_0 ?_
  refine r_callvV (pc := 35) X dX3_gathering_35 cf_X3_goesHour ml_X3_130 (rf rfl rfl) hy oc_13.1 hc_3 (fun b hb => m_X3_goesHour hb) rfl rfl (Nat.le_of_ble_eq_true rfl) (fun σ2 => ?_)
  refine r_iinc (pc := 38) (lv' := [(1, .int _), (0, .ref _)]) X dX3_gathering_38 2 rfl (congrArg (fun z => v2 + z) kc_1) (by decide) rfl (fun x3 => ?_)
  refine r_goto (pc := 41) (tgt := 9) X dX3_gathering_41 (by decide) ?_
  refine r_sub [2, 1, 0] rfl ?_
  exact hK9 s0 x3 σ2

set_option maxRecDepth 100000 in
theorem s_X3_gathering_j44 {y : LY} {l : Launch} {E : ET} (X : CX y l E cX3_gathering 3 RX3 (rmd 6)) (Z : ZX E (some .int)) (hy : y.1 ≤ (eS E).heap.size)     (v1 : Int32) (σ : ST) : WW y l E 3 (fun a => QM y E (xI a)) 44 [(0, .ref (ad y 13)), (1, .int v1)] [] σ (T_X3_gathering_j44   v1 σ) := by
  unfold T_X3_gathering_j44
  refine r_aload_n (pc := 44) X dX3_gathering_44 0 rfl rfl ?_
  refine r_callvV (pc := 45) X dX3_gathering_45 cf_X3_forgets ml_X3_241 (rf rfl rfl) hy oc_13.1 hc_3 (fun b hb => m_X3_forgets hb) rfl rfl (Nat.le_of_ble_eq_true rfl) (fun σ2 => ?_)
  refine r_iload_n (pc := 48) X dX3_gathering_48 1 rfl rfl ?_
  exact r_iret (pc := 49) X Z dX3_gathering_49 rfl

set_option maxRecDepth 100000 in
theorem s_X3_gathering_L9 {y : LY} {l : Launch} {E : ET} (X : CX y l E cX3_gathering 3 RX3 (rmd 6)) (Z : ZX E (some .int)) (hy : y.1 ≤ (eS E).heap.size)     (n : Nat) : ∀ (v1 : Int32) (v2 : Int32) (σ : ST), WW y l E 3 (fun a => QM y E (xI a)) 9 [(0, .ref (ad y 13)), (1, .int v1), (2, .int v2)] [] σ (T_X3_gathering_L9  n v1 v2 σ) := by
  induction n with
  | zero => intros; exact r_none rfl
  | succ n ih =>
    intro v1 v2 σ
    unfold T_X3_gathering_L9
    refine r_iload_n (pc := 9) X dX3_gathering_9 2 rfl rfl ?_
    refine r_bipush (pc := 10) X dX3_gathering_10 kb_60 ?_
    refine r_icmp_gt (pc := 12) (tgt := 44) X dX3_gathering_12 (by decide) ?_ ?_
    · refine r_sub [0, 1] rfl ?_
      exact s_X3_gathering_j44 X Z hy v1 σ
    · refine r_iload_n (pc := 15) X dX3_gathering_15 1 rfl rfl ?_
      refine r_if_ge (pc := 16) (tgt := 44) X dX3_gathering_16 (by decide) ?_ ?_
      · refine r_sub [0, 1] rfl ?_
        exact s_X3_gathering_j44 X Z hy v1 σ
      · refine r_aload_n (pc := 19) X dX3_gathering_19 0 rfl rfl ?_
        refine r_callvp (pc := 20) X dX3_gathering_20 cf_X3_areAtOne ml_X3_353 (rf rfl rfl) hy oc_13.1 hc_3 (fun b hb => m_X3_areAtOne hb) rfl rfl (Nat.le_of_ble_eq_true rfl) (fun x1 => ?_)
        refine r_if_eq (pc := 23) (tgt := 30) X dX3_gathering_23 (by decide) ?_ ?_
        · refine r_bipush (pc := 30) X dX3_gathering_30 kb_m9 ?_
          refine r_sub [0, 2] rfl ?_
          exact s_X3_gathering_j32 X Z hy (fun v1 v2 s => ih v1 v2 s) v2 ((-9)) σ
        · refine r_iload_n (pc := 26) X dX3_gathering_26 2 rfl rfl ?_
          refine r_goto (pc := 27) (tgt := 32) X dX3_gathering_27 (by decide) ?_
          refine r_sub [0, 2] rfl ?_
          exact s_X3_gathering_j32 X Z hy (fun v1 v2 s => ih v1 v2 s) v2 v2 σ

set_option maxRecDepth 100000 in
theorem m_X3_gathering {y : LY} {l : Launch}   {σ : ST} {a : (Int32 × ST)} (h : T_X3_gathering σ = some a) : MU y l yX3_gathering cX3_gathering 3 (some .int) (rmd 6) [.ref (ad y 13)] σ (xI a) := by
  refine MU.of (φ := xI) h (by decide +kernel) rfl (fun E X Z hy => ?_)
  have X : CX y l E cX3_gathering 3 RX3 (rmd 6) := X
  show WW y l E 3 _ 0 [(0, .ref (ad y 13))] [] σ (T_X3_gathering σ)
  unfold T_X3_gathering
  refine r_aload_n (pc := 0) X dX3_gathering_0 0 rfl rfl ?_
  refine r_callvV (pc := 1) X dX3_gathering_1 cf_X3_thinks ml_X3_238 (rf rfl rfl) hy oc_13.1 hc_3 (fun b hb => m_X3_thinks hb) rfl rfl (Nat.le_of_ble_eq_true rfl) (fun σ2 => ?_)
  refine r_bipush (pc := 4) X dX3_gathering_4 kb_m9 ?_
  refine r_istore_n (pc := 6) (lv' := [(1, .int _), (0, .ref _)]) X dX3_gathering_6 rfl (by decide) rfl ?_
  refine r_iconst (pc := 7) X dX3_gathering_7 kc_0 ?_
  refine r_istore_n (pc := 8) (lv' := [(2, .int _), (1, .int _), (0, .ref _)]) X dX3_gathering_8 rfl (by decide) rfl ?_
  refine r_sub [2, 1, 0] rfl ?_
  exact s_X3_gathering_L9 X Z hy FU ((-9)) 0 σ2

set_option maxRecDepth 100000 in
theorem s_X3_bestHabit_j15 {y : LY} {l : Launch} {E : ET} (X : CX y l E cX3_bestHabit 9 RX3 (rmd 7)) (Z : ZX E (some .int)) (hy : y.1 ≤ (eS E).heap.size)     (σ : ST) : WW y l E 9 (fun a => QM y E (xI a)) 15 [(0, .ref (ad y 13))] [] σ (T_X3_bestHabit_j15   σ) := by
  unfold T_X3_bestHabit_j15
  refine r_aload_n (pc := 15) X dX3_bestHabit_15 0 rfl rfl ?_
  refine r_iconst (pc := 16) X dX3_bestHabit_16 kc_m1 ?_
  refine r_callvI (pc := 17) X dX3_bestHabit_17 cf_X3_no ml_X3_102 (rf rfl rfl) hy oc_13.1 hc_3 (fun b hb => m_X3_no hb) rfl rfl (Nat.le_of_ble_eq_true rfl) (fun x1 σ2 => ?_)
  exact r_iret (pc := 20) X Z dX3_bestHabit_20 rfl

set_option maxRecDepth 100000 in
theorem s_X3_bestHabit_j100 {y : LY} {l : Launch} {E : ET} (X : CX y l E cX3_bestHabit 9 RX3 (rmd 7)) (Z : ZX E (some .int)) (hy : y.1 ≤ (eS E).heap.size)   {K55 : Int32 → Int32 → Int32 → Int32 → Int32 → Int32 → Int32 → ST → Option (Int32 × ST)} (hK55 : ∀ (v1 : Int32) (v2 : Int32) (v3 : Int32) (v4 : Int32) (v5 : Int32) (v6 : Int32) (v7 : Int32) (σ : ST), WW y l E 9 (fun a => QM y E (xI a)) 55 [(0, .ref (ad y 13)), (1, .int v1), (2, .int v2), (3, .int v3), (4, .int v4), (5, .int v5), (6, .int v6), (7, .int v7)] [] σ (K55 v1 v2 v3 v4 v5 v6 v7 σ)) (v1 : Int32) (v2 : Int32) (v3 : Int32) (v4 : Int32) (v7 : Int32) (v8 : Int32) (σ : ST) : WW y l E 9 (fun a => QM y E (xI a)) 100 [(0, .ref (ad y 13)), (1, .int v1), (2, .int v2), (3, .int v3), (4, .int v4), (7, .int v7), (8, .int v8)] [] σ (T_X3_bestHabit_j100 K55  v1 v2 v3 v4 v7 v8 σ) := by
  unfold T_X3_bestHabit_j100
  refine r_iload (pc := 100) X dX3_bestHabit_100 5 rfl ?_
  refine r_istore (pc := 102) (lv' := [(5, .int _), (0, .ref _), (1, .int _), (2, .int _), (3, .int _), (4, .int _), (7, .int _), (8, .int _)]) X dX3_bestHabit_102 (by decide) rfl ?_
  refine r_iload (pc := 104) X dX3_bestHabit_104 7 rfl ?_
  refine r_istore (pc := 106) (lv' := [(6, .int _), (5, .int _), (0, .ref _), (1, .int _), (2, .int _), (3, .int _), (4, .int _), (7, .int _), (8, .int _)]) X dX3_bestHabit_106 (by decide) rfl ?_
  refine r_iinc (pc := 108) (lv' := [(6, .int _), (5, .int _), (0, .ref _), (1, .int _), (2, .int _), (3, .int _), (4, .int _), (8, .int _)]) X dX3_bestHabit_108 7 rfl (congrArg (fun z => v7 + z) kc_1) (by decide) rfl (fun x1 => ?_)
  refine r_goto (pc := 111) (tgt := 55) X dX3_bestHabit_111 (by decide) ?_
  refine r_sub [3, 4, 5, 6, 7, 2, 1, 0] rfl ?_
  exact hK55 v1 v2 v3 v4 v7 v8 x1 σ

set_option maxRecDepth 100000 in
theorem s_X3_bestHabit_L55 {y : LY} {l : Launch} {E : ET} (X : CX y l E cX3_bestHabit 9 RX3 (rmd 7)) (Z : ZX E (some .int)) (hy : y.1 ≤ (eS E).heap.size)     (n : Nat) : ∀ (v1 : Int32) (v2 : Int32) (v3 : Int32) (v4 : Int32) (v5 : Int32) (v6 : Int32) (v7 : Int32) (σ : ST), WW y l E 9 (fun a => QM y E (xI a)) 55 [(0, .ref (ad y 13)), (1, .int v1), (2, .int v2), (3, .int v3), (4, .int v4), (5, .int v5), (6, .int v6), (7, .int v7)] [] σ (T_X3_bestHabit_L55  n v1 v2 v3 v4 v5 v6 v7 σ) := by
  induction n with
  | zero => intros; exact r_none rfl
  | succ n ih =>
    intro v1 v2 v3 v4 v5 v6 v7 σ
    unfold T_X3_bestHabit_L55
    refine r_iload (pc := 55) X dX3_bestHabit_55 7 rfl ?_
    refine r_bipush (pc := 57) X dX3_bestHabit_57 kb_10 ?_
    refine r_icmp_ge (pc := 59) (tgt := 114) X dX3_bestHabit_59 (by decide) ?_ ?_
    · refine r_aload_n (pc := 114) X dX3_bestHabit_114 0 rfl rfl ?_
      refine r_geta (pc := 115) X dX3_bestHabit_115 fl_X3_19 oc_13 (by decide) ?_
      refine r_iload_n (pc := 118) X dX3_bestHabit_118 1 rfl rfl ?_
      refine r_iload (pc := 119) X dX3_bestHabit_119 4 rfl ?_
      refine r_iast (pc := 121) X dX3_bestHabit_121 ar_13_3 (fun σ1 => ?_)
      refine r_iload (pc := 122) X dX3_bestHabit_122 5 rfl ?_
      exact r_iret (pc := 124) X Z dX3_bestHabit_124 rfl
    · refine r_aload_n (pc := 62) X dX3_bestHabit_62 0 rfl rfl ?_
      refine r_geta (pc := 63) X dX3_bestHabit_63 fl_X3_19 oc_13 (by decide) ?_
      refine r_iload_n (pc := 66) X dX3_bestHabit_66 1 rfl rfl ?_
      refine r_iload (pc := 67) X dX3_bestHabit_67 7 rfl ?_
      refine r_iast (pc := 69) X dX3_bestHabit_69 ar_13_3 (fun σ2 => ?_)
      refine r_aload_n (pc := 70) X dX3_bestHabit_70 0 rfl rfl ?_
      refine r_iload_n (pc := 71) X dX3_bestHabit_71 3 rfl rfl ?_
      refine r_iload_n (pc := 72) X dX3_bestHabit_72 2 rfl rfl ?_
      refine r_bipush (pc := 73) X dX3_bestHabit_73 kb_60 ?_
      refine r_callvI (pc := 75) X dX3_bestHabit_75 cf_X3_comesTo ml_X3_265 (rf rfl rfl) hy oc_13.1 hc_3 (fun b hb => m_X3_comesTo hb) rfl rfl (Nat.le_of_ble_eq_true rfl) (fun x3 σ4 => ?_)
      refine r_istore (pc := 78) (lv' := [(8, .int _), (0, .ref _), (1, .int _), (2, .int _), (3, .int _), (4, .int _), (5, .int _), (6, .int _), (7, .int _)]) X dX3_bestHabit_78 (by decide) rfl ?_
      refine r_iload (pc := 80) X dX3_bestHabit_80 0 rfl ?_
      refine r_if_lt (pc := 82) (tgt := 108) X dX3_bestHabit_82 (by decide) ?_ ?_
      · refine r_iinc (pc := 108) (lv' := [(8, .int _), (0, .ref _), (1, .int _), (2, .int _), (3, .int _), (4, .int _), (5, .int _), (6, .int _)]) X dX3_bestHabit_108 8 rfl (congrArg (fun z => v7 + z) kc_1) (by decide) rfl (fun x5 => ?_)
        refine r_goto (pc := 111) (tgt := 55) X dX3_bestHabit_111 (by decide) ?_
        refine r_sub [2, 3, 4, 5, 6, 7, 8, 0] rfl ?_
        exact ih v1 v2 v3 v4 v5 v6 x5 σ4
      · refine r_iload (pc := 85) X dX3_bestHabit_85 6 rfl ?_
        refine r_if_lt (pc := 87) (tgt := 100) X dX3_bestHabit_87 (by decide) ?_ ?_
        · refine r_sub [1, 2, 3, 4, 5, 8, 0] rfl ?_
          exact s_X3_bestHabit_j100 X Z hy (fun v1 v2 v3 v4 v5 v6 v7 s => ih v1 v2 v3 v4 v5 v6 v7 s) v1 v2 v3 v4 v7 x3 σ4
        · refine r_iload (pc := 90) X dX3_bestHabit_90 0 rfl ?_
          refine r_iload (pc := 92) X dX3_bestHabit_92 7 rfl ?_
          refine r_icmp_lt (pc := 94) (tgt := 100) X dX3_bestHabit_94 (by decide) ?_ ?_
          · refine r_sub [1, 2, 3, 4, 5, 8, 0] rfl ?_
            exact s_X3_bestHabit_j100 X Z hy (fun v1 v2 v3 v4 v5 v6 v7 s => ih v1 v2 v3 v4 v5 v6 v7 s) v1 v2 v3 v4 v7 x3 σ4
          · refine r_goto (pc := 97) (tgt := 108) X dX3_bestHabit_97 (by decide) ?_
            refine r_iinc (pc := 108) (lv' := [(8, .int _), (0, .ref _), (1, .int _), (2, .int _), (3, .int _), (4, .int _), (5, .int _), (6, .int _)]) X dX3_bestHabit_108 8 rfl (congrArg (fun z => v7 + z) kc_1) (by decide) rfl (fun x6 => ?_)
            refine r_goto (pc := 111) (tgt := 55) X dX3_bestHabit_111 (by decide) ?_
            refine r_sub [2, 3, 4, 5, 6, 7, 8, 0] rfl ?_
            exact ih v1 v2 v3 v4 v5 v6 x6 σ4

set_option maxRecDepth 100000 in
theorem m_X3_bestHabit {y : LY} {l : Launch}  {a0 : Int32} {a1 : Int32} {σ : ST} {a : (Int32 × ST)} (h : T_X3_bestHabit a0 a1 σ = some a) : MU y l yX3_bestHabit cX3_bestHabit 9 (some .int) (rmd 7) [.ref (ad y 13), .int a0, .int a1] σ (xI a) := by
  refine MU.of (φ := xI) h (by decide +kernel) rfl (fun E X Z hy => ?_)
  have X : CX y l E cX3_bestHabit 9 RX3 (rmd 7) := X
  show WW y l E 9 _ 0 [(0, .ref (ad y 13)), (1, .int a0), (2, .int a1)] [] σ (T_X3_bestHabit a0 a1 σ)
  unfold T_X3_bestHabit
  refine r_aload_n (pc := 0) X dX3_bestHabit_0 0 rfl rfl ?_
  refine r_iload_n (pc := 1) X dX3_bestHabit_1 1 rfl rfl ?_
  refine r_callvp (pc := 2) X dX3_bestHabit_2 cf_X3_isBag ml_X3_141 (rf rfl rfl) hy oc_13.1 hc_3 (fun b hb => m_X3_isBag hb) rfl rfl (Nat.le_of_ble_eq_true rfl) (fun x1 => ?_)
  refine r_if_eq (pc := 5) (tgt := 15) X dX3_bestHabit_5 (by decide) ?_ ?_
  · refine r_sub [0] rfl ?_
    exact s_X3_bestHabit_j15 X Z hy σ
  · refine r_iload_n (pc := 8) X dX3_bestHabit_8 2 rfl rfl ?_
    refine r_callsp (pc := 9) X dX3_bestHabit_9 cf_X3_isPlace ml_X3_226 (rf rfl rfl) hy (fun b hb => m_X3_isPlace hb) rfl rfl (Nat.le_of_ble_eq_true rfl) (fun x3 => ?_)
    refine r_if_ne (pc := 12) (tgt := 21) X dX3_bestHabit_12 (by decide) ?_ ?_
    · refine r_aload_n (pc := 21) X dX3_bestHabit_21 0 rfl rfl ?_
      refine r_iload_n (pc := 22) X dX3_bestHabit_22 1 rfl rfl ?_
      refine r_callvp (pc := 23) X dX3_bestHabit_23 cf_X3_whoHas ml_X3_188 (rf rfl rfl) hy oc_13.1 hc_3 (fun b hb => m_X3_whoHas hb) rfl rfl (Nat.le_of_ble_eq_true rfl) (fun x5 => ?_)
      refine r_istore_n (pc := 26) (lv' := [(3, .int _), (0, .ref _), (1, .int _), (2, .int _)]) X dX3_bestHabit_26 rfl (by decide) rfl ?_
      refine r_iload_n (pc := 27) X dX3_bestHabit_27 0 rfl rfl ?_
      refine r_bipush (pc := 28) X dX3_bestHabit_28 kb_9 ?_
      refine r_icmp_ne (pc := 30) (tgt := 36) X dX3_bestHabit_30 (by decide) ?_ ?_
      · refine r_aload_n (pc := 36) X dX3_bestHabit_36 1 rfl rfl ?_
        refine r_geta (pc := 37) X dX3_bestHabit_37 fl_X3_19 oc_13 (by decide) ?_
        refine r_iload_n (pc := 40) X dX3_bestHabit_40 2 rfl rfl ?_
        refine r_iald (pc := 41) X dX3_bestHabit_41 ar_13_3 (fun x7 => ?_)
        refine r_istore (pc := 42) (lv' := [(4, .int _), (3, .int _), (0, .ref _), (1, .int _), (2, .int _)]) X dX3_bestHabit_42 (by decide) rfl ?_
        refine r_bipush (pc := 44) X dX3_bestHabit_44 kb_m9 ?_
        refine r_istore (pc := 46) (lv' := [(5, .int _), (4, .int _), (3, .int _), (0, .ref _), (1, .int _), (2, .int _)]) X dX3_bestHabit_46 (by decide) rfl ?_
        refine r_bipush (pc := 48) X dX3_bestHabit_48 kb_m9 ?_
        refine r_istore (pc := 50) (lv' := [(6, .int _), (5, .int _), (4, .int _), (3, .int _), (0, .ref _), (1, .int _), (2, .int _)]) X dX3_bestHabit_50 (by decide) rfl ?_
        refine r_iconst (pc := 52) X dX3_bestHabit_52 kc_0 ?_
        refine r_istore (pc := 53) (lv' := [(7, .int _), (6, .int _), (5, .int _), (4, .int _), (3, .int _), (0, .ref _), (1, .int _), (2, .int _)]) X dX3_bestHabit_53 (by decide) rfl ?_
        refine r_sub [5, 6, 7, 4, 3, 2, 1, 0] rfl ?_
        exact s_X3_bestHabit_L55 X Z hy FU a0 a1 x5 x7 ((-9)) ((-9)) 0 σ
      · refine r_bipush (pc := 33) X dX3_bestHabit_33 kb_m9 ?_
        exact r_iret (pc := 35) X Z dX3_bestHabit_35 rfl
    · refine r_sub [0] rfl ?_
      exact s_X3_bestHabit_j15 X Z hy σ

set_option maxRecDepth 100000 in
theorem s_X3_farthest_L66 {y : LY} {l : Launch} {E : ET} (X : CX y l E cX3_farthest 8 RX3 (rmd 7)) (Z : ZX E (some .int)) (hy : y.1 ≤ (eS E).heap.size)   {K51 : Int32 → Int32 → Int32 → Int32 → ST → Option (Int32 × ST)} (hK51 : ∀ (v2 : Int32) (v4 : Int32) (v5 : Int32) (v6 : Int32) (σ : ST), WW y l E 8 (fun a => QM y E (xI a)) 51 [(0, .ref (ad y 13)), (2, .int v2), (4, .int v4), (5, .int v5), (6, .int v6)] [] σ (K51 v2 v4 v5 v6 σ)) (n : Nat) : ∀ (v2 : Int32) (v4 : Int32) (v5 : Int32) (v6 : Int32) (v7 : Int32) (σ : ST), WW y l E 8 (fun a => QM y E (xI a)) 66 [(0, .ref (ad y 13)), (2, .int v2), (4, .int v4), (5, .int v5), (6, .int v6), (7, .int v7)] [] σ (T_X3_farthest_L66 K51 n v2 v4 v5 v6 v7 σ) := by
  induction n with
  | zero => intros; exact r_none rfl
  | succ n ih =>
    intro v2 v4 v5 v6 v7 σ
    unfold T_X3_farthest_L66
    refine r_iload (pc := 66) X dX3_farthest_66 5 rfl ?_
    refine r_aload_n (pc := 68) X dX3_farthest_68 0 rfl rfl ?_
    refine r_geti (pc := 69) X dX3_farthest_69 fl_X3_88 oc_13 rfl (fun x1 => ?_)
    refine r_icmp_ge (pc := 72) (tgt := 117) X dX3_farthest_72 (by decide) ?_ ?_
    · refine r_iinc (pc := 117) (lv' := [(0, .ref _), (2, .int _), (4, .int _), (5, .int _), (7, .int _)]) X dX3_farthest_117 4 rfl (congrArg (fun z => v6 + z) kc_1) (by decide) rfl (fun x2 => ?_)
      refine r_goto (pc := 120) (tgt := 51) X dX3_farthest_120 (by decide) ?_
      refine r_sub [1, 2, 3, 4, 0] rfl ?_
      exact hK51 v2 v4 v5 x2 σ
    · refine r_aload_n (pc := 75) X dX3_farthest_75 0 rfl rfl ?_
      refine r_iload (pc := 76) X dX3_farthest_76 4 rfl ?_
      refine r_iload (pc := 78) X dX3_farthest_78 5 rfl ?_
      refine r_callvp (pc := 80) X dX3_farthest_80 cf_X3_apart ml_X3_347 (rf rfl rfl) hy oc_13.1 hc_3 (fun b hb => m_X3_apart hb) rfl rfl (Nat.le_of_ble_eq_true rfl) (fun x3 => ?_)
      refine r_iload (pc := 83) X dX3_farthest_83 3 rfl ?_
      refine r_icmp_gt (pc := 85) (tgt := 91) X dX3_farthest_85 (by decide) ?_ ?_
      · refine r_bipush (pc := 91) X dX3_farthest_91 kb_10 ?_
        refine r_iload (pc := 93) X dX3_farthest_93 4 rfl ?_
        refine r_imul (pc := 95) X dX3_farthest_95 ?_
        refine r_iload (pc := 96) X dX3_farthest_96 5 rfl ?_
        refine r_iadd (pc := 98) X dX3_farthest_98 ?_
        refine r_vl (fun x5 => ?_)
        refine r_istore (pc := 99) (lv' := [(4, .int _), (0, .ref _), (2, .int _), (5, .int _), (6, .int _), (7, .int _)]) X dX3_farthest_99 (by decide) rfl ?_
        refine r_aload_n (pc := 101) X dX3_farthest_101 1 rfl rfl ?_
        refine r_iload (pc := 102) X dX3_farthest_102 4 rfl ?_
        refine r_iload (pc := 104) X dX3_farthest_104 5 rfl ?_
        refine r_callvp (pc := 106) X dX3_farthest_106 cf_X3_apart ml_X3_347 (rf rfl rfl) hy oc_13.1 hc_3 (fun b hb => m_X3_apart hb) rfl rfl (Nat.le_of_ble_eq_true rfl) (fun x6 => ?_)
        refine r_istore (pc := 109) (lv' := [(5, .int _), (4, .int _), (0, .ref _), (2, .int _), (6, .int _), (7, .int _)]) X dX3_farthest_109 (by decide) rfl ?_
        refine r_iinc (pc := 111) (lv' := [(5, .int _), (4, .int _), (0, .ref _), (2, .int _), (6, .int _)]) X dX3_farthest_111 5 rfl (congrArg (fun z => v7 + z) kc_1) (by decide) rfl (fun x8 => ?_)
        refine r_goto (pc := 114) (tgt := 66) X dX3_farthest_114 (by decide) ?_
        refine r_sub [3, 4, 2, 1, 5, 0] rfl ?_
        exact ih v2 x5 x6 v6 x8 σ
      · refine r_goto (pc := 88) (tgt := 111) X dX3_farthest_88 (by decide) ?_
        refine r_iinc (pc := 111) (lv' := [(0, .ref _), (2, .int _), (4, .int _), (5, .int _), (6, .int _)]) X dX3_farthest_111 5 rfl (congrArg (fun z => v7 + z) kc_1) (by decide) rfl (fun x9 => ?_)
        refine r_goto (pc := 114) (tgt := 66) X dX3_farthest_114 (by decide) ?_
        refine r_sub [1, 2, 3, 4, 5, 0] rfl ?_
        exact ih v2 v4 v5 v6 x9 σ

set_option maxRecDepth 100000 in
theorem s_X3_farthest_L51 {y : LY} {l : Launch} {E : ET} (X : CX y l E cX3_farthest 8 RX3 (rmd 7)) (Z : ZX E (some .int)) (hy : y.1 ≤ (eS E).heap.size)     (n : Nat) : ∀ (v2 : Int32) (v4 : Int32) (v5 : Int32) (v6 : Int32) (σ : ST), WW y l E 8 (fun a => QM y E (xI a)) 51 [(0, .ref (ad y 13)), (2, .int v2), (4, .int v4), (5, .int v5), (6, .int v6)] [] σ (T_X3_farthest_L51  n v2 v4 v5 v6 σ) := by
  induction n with
  | zero => intros; exact r_none rfl
  | succ n ih =>
    intro v2 v4 v5 v6 σ
    unfold T_X3_farthest_L51
    refine r_iload (pc := 51) X dX3_farthest_51 4 rfl ?_
    refine r_aload_n (pc := 53) X dX3_farthest_53 0 rfl rfl ?_
    refine r_geti (pc := 54) X dX3_farthest_54 fl_X3_88 oc_13 rfl (fun x1 => ?_)
    refine r_icmp_ge (pc := 57) (tgt := 123) X dX3_farthest_57 (by decide) ?_ ?_
    · refine r_aload_n (pc := 123) X dX3_farthest_123 0 rfl rfl ?_
      refine r_callvV (pc := 124) X dX3_farthest_124 cf_X3_forgets ml_X3_241 (rf rfl rfl) hy oc_13.1 hc_3 (fun b hb => m_X3_forgets hb) rfl rfl (Nat.le_of_ble_eq_true rfl) (fun σ3 => ?_)
      refine r_iload_n (pc := 127) X dX3_farthest_127 1 rfl rfl ?_
      refine r_if_ne (pc := 128) (tgt := 136) X dX3_farthest_128 (by decide) ?_ ?_
      · refine r_iload (pc := 136) X dX3_farthest_136 3 rfl ?_
        exact r_iret (pc := 138) X Z dX3_farthest_138 rfl
      · refine r_iload (pc := 131) X dX3_farthest_131 2 rfl ?_
        refine r_goto (pc := 133) (tgt := 138) X dX3_farthest_133 (by decide) ?_
        exact r_iret (pc := 138) X Z dX3_farthest_138 rfl
    · refine r_iload (pc := 60) X dX3_farthest_60 4 rfl ?_
      refine r_iconst (pc := 62) X dX3_farthest_62 kc_1 ?_
      refine r_iadd (pc := 63) X dX3_farthest_63 ?_
      refine r_vl (fun x4 => ?_)
      refine r_istore (pc := 64) (lv' := [(7, .int _), (0, .ref _), (2, .int _), (4, .int _), (5, .int _), (6, .int _)]) X dX3_farthest_64 (by decide) rfl ?_
      refine r_sub [1, 2, 3, 4, 5, 0] rfl ?_
      exact s_X3_farthest_L66 X Z hy (fun v2 v4 v5 v6 s => ih v2 v4 v5 v6 s) FU v2 v4 v5 v6 x4 σ

set_option maxRecDepth 100000 in
theorem s_X3_farthest_j21 {y : LY} {l : Launch} {E : ET} (X : CX y l E cX3_farthest 8 RX3 (rmd 7)) (Z : ZX E (some .int)) (hy : y.1 ≤ (eS E).heap.size)     (v1 : Int32) (v2 : Int32) (v3 : Int32) (σ : ST) : WW y l E 8 (fun a => QM y E (xI a)) 21 [(0, .ref (ad y 13)), (1, .int v1), (2, .int v2), (3, .int v3)] [] σ (T_X3_farthest_j21   v1 v2 v3 σ) := by
  unfold T_X3_farthest_j21
  refine r_iload_n (pc := 21) X dX3_farthest_21 3 rfl rfl ?_
  refine r_if_eq (pc := 22) (tgt := 31) X dX3_farthest_22 (by decide) ?_ ?_
  · refine r_aload_n (pc := 31) X dX3_farthest_31 0 rfl rfl ?_
    refine r_callvV (pc := 32) X dX3_farthest_32 cf_X3_thinks ml_X3_238 (rf rfl rfl) hy oc_13.1 hc_3 (fun b hb => m_X3_thinks hb) rfl rfl (Nat.le_of_ble_eq_true rfl) (fun σ2 => ?_)
    refine r_aload_n (pc := 35) X dX3_farthest_35 0 rfl rfl ?_
    refine r_iload_n (pc := 36) X dX3_farthest_36 1 rfl rfl ?_
    refine r_callvV (pc := 37) X dX3_farthest_37 cf_X3_goes ml_X3_232 (rf rfl rfl) hy oc_13.1 hc_3 (fun b hb => m_X3_goes hb) rfl rfl (Nat.le_of_ble_eq_true rfl) (fun σ4 => ?_)
    refine r_bipush (pc := 40) X dX3_farthest_40 kb_m9 ?_
    refine r_istore (pc := 42) (lv' := [(4, .int _), (0, .ref _), (1, .int _), (2, .int _), (3, .int _)]) X dX3_farthest_42 (by decide) rfl ?_
    refine r_bipush (pc := 44) X dX3_farthest_44 kb_m9 ?_
    refine r_istore (pc := 46) (lv' := [(5, .int _), (4, .int _), (0, .ref _), (1, .int _), (2, .int _), (3, .int _)]) X dX3_farthest_46 (by decide) rfl ?_
    refine r_iconst (pc := 48) X dX3_farthest_48 kc_0 ?_
    refine r_istore (pc := 49) (lv' := [(6, .int _), (5, .int _), (4, .int _), (0, .ref _), (1, .int _), (2, .int _), (3, .int _)]) X dX3_farthest_49 (by decide) rfl ?_
    refine r_sub [3, 5, 2, 1, 0] rfl ?_
    exact s_X3_farthest_L51 X Z hy FU v2 ((-9)) ((-9)) 0 σ4
  · refine r_aload_n (pc := 25) X dX3_farthest_25 0 rfl rfl ?_
    refine r_iload_n (pc := 26) X dX3_farthest_26 3 rfl rfl ?_
    refine r_callvI (pc := 27) X dX3_farthest_27 cf_X3_no ml_X3_102 (rf rfl rfl) hy oc_13.1 hc_3 (fun b hb => m_X3_no hb) rfl rfl (Nat.le_of_ble_eq_true rfl) (fun x5 σ6 => ?_)
    exact r_iret (pc := 30) X Z dX3_farthest_30 rfl

set_option maxRecDepth 100000 in
theorem m_X3_farthest {y : LY} {l : Launch}  {a0 : Int32} {a1 : Int32} {σ : ST} {a : (Int32 × ST)} (h : T_X3_farthest a0 a1 σ = some a) : MU y l yX3_farthest cX3_farthest 8 (some .int) (rmd 7) [.ref (ad y 13), .int a0, .int a1] σ (xI a) := by
  refine MU.of (φ := xI) h (by decide +kernel) rfl (fun E X Z hy => ?_)
  have X : CX y l E cX3_farthest 8 RX3 (rmd 7) := X
  show WW y l E 8 _ 0 [(0, .ref (ad y 13)), (1, .int a0), (2, .int a1)] [] σ (T_X3_farthest a0 a1 σ)
  unfold T_X3_farthest
  refine r_iload_n (pc := 0) X dX3_farthest_0 1 rfl rfl ?_
  refine r_callsp (pc := 1) X dX3_farthest_1 cf_X3_notHours ml_X3_235 (rf rfl rfl) hy (fun b hb => m_X3_notHours hb) rfl rfl (Nat.le_of_ble_eq_true rfl) (fun x1 => ?_)
  refine r_istore_n (pc := 4) (lv' := [(3, .int _), (0, .ref _), (1, .int _), (2, .int _)]) X dX3_farthest_4 rfl (by decide) rfl ?_
  refine r_iload_n (pc := 5) X dX3_farthest_5 0 rfl rfl ?_
  refine r_if_ne (pc := 6) (tgt := 21) X dX3_farthest_6 (by decide) ?_ ?_
  · refine r_sub [1, 2, 3, 0] rfl ?_
    exact s_X3_farthest_j21 X Z hy a0 a1 x1 σ
  · refine r_iload_n (pc := 9) X dX3_farthest_9 3 rfl rfl ?_
    refine r_iconst (pc := 10) X dX3_farthest_10 kc_0 ?_
    refine r_iconst (pc := 11) X dX3_farthest_11 kc_1 ?_
    refine r_callsp (pc := 12) X dX3_farthest_12 cf_X3_isIn ml_X3_113 (rf rfl rfl) hy (fun b hb => m_X3_isIn hb) rfl rfl (Nat.le_of_ble_eq_true rfl) (fun x3 => ?_)
    refine r_if_ne (pc := 15) (tgt := 21) X dX3_farthest_15 (by decide) ?_ ?_
    · refine r_sub [1, 2, 3, 0] rfl ?_
      exact s_X3_farthest_j21 X Z hy a0 a1 x1 σ
    · refine r_bipush (pc := 18) X dX3_farthest_18 kb_m2 ?_
      refine r_istore_n (pc := 20) (lv' := [(3, .int _), (0, .ref _), (1, .int _), (2, .int _)]) X dX3_farthest_20 rfl (by decide) rfl ?_
      refine r_sub [1, 2, 3, 0] rfl ?_
      exact s_X3_farthest_j21 X Z hy a0 a1 ((-2)) σ

set_option maxRecDepth 100000 in
theorem s_X3_row_j24 {y : LY} {l : Launch} {E : ET} (X : CX y l E cX3_row 3 RX3 (rmd 1)) (Z : ZX E (some .int)) (hy : y.1 ≤ (eS E).heap.size)     (v1 : Int32) (v2 : Int32) (σ : ST) : WW y l E 3 (fun a => QM y E (xI a)) 24 [(0, .ref (ad y 13)), (1, .int v1), (2, .int v2)] [] σ (T_X3_row_j24   v1 v2 σ) := by
  unfold T_X3_row_j24
  refine r_iload_n (pc := 24) X dX3_row_24 2 rfl rfl ?_
  refine r_if_eq (pc := 25) (tgt := 34) X dX3_row_25 (by decide) ?_ ?_
  · refine r_aload_n (pc := 34) X dX3_row_34 0 rfl rfl ?_
    refine r_geta (pc := 35) X dX3_row_35 fl_X3_74 oc_13 (by decide) ?_
    refine r_aload_n (pc := 38) X dX3_row_38 0 rfl rfl ?_
    refine r_geti (pc := 39) X dX3_row_39 fl_X3_314 oc_13 rfl (fun x1 => ?_)
    refine r_iload_n (pc := 42) X dX3_row_42 1 rfl rfl ?_
    refine r_iast (pc := 43) X dX3_row_43 ar_13_34 (fun σ2 => ?_)
    refine r_aload_n (pc := 44) X dX3_row_44 0 rfl rfl ?_
    refine r_dup (pc := 45) X dX3_row_45 rfl ?_
    refine r_geti (pc := 46) X dX3_row_46 fl_X3_314 oc_13 rfl (fun x3 => ?_)
    refine r_iconst (pc := 49) X dX3_row_49 kc_1 ?_
    refine r_iadd (pc := 50) X dX3_row_50 ?_
    refine r_puti (pc := 51) X dX3_row_51 fl_X3_314 fw_3_35 oc_13 rfl (fun σ4 => ?_)
    refine r_aload_n (pc := 54) X dX3_row_54 0 rfl rfl ?_
    refine r_geti (pc := 55) X dX3_row_55 fl_X3_314 oc_13 rfl (fun x5 => ?_)
    exact r_iret (pc := 58) X Z dX3_row_58 rfl
  · refine r_aload_n (pc := 28) X dX3_row_28 0 rfl rfl ?_
    refine r_iload_n (pc := 29) X dX3_row_29 2 rfl rfl ?_
    refine r_callvI (pc := 30) X dX3_row_30 cf_X3_no ml_X3_102 (rf rfl rfl) hy oc_13.1 hc_3 (fun b hb => m_X3_no hb) rfl rfl (Nat.le_of_ble_eq_true rfl) (fun x6 σ7 => ?_)
    exact r_iret (pc := 33) X Z dX3_row_33 rfl

set_option maxRecDepth 100000 in
theorem m_X3_row {y : LY} {l : Launch}  {a0 : Int32} {σ : ST} {a : (Int32 × ST)} (h : T_X3_row a0 σ = some a) : MU y l yX3_row cX3_row 3 (some .int) (rmd 1) [.ref (ad y 13), .int a0] σ (xI a) := by
  refine MU.of (φ := xI) h (by decide +kernel) rfl (fun E X Z hy => ?_)
  have X : CX y l E cX3_row 3 RX3 (rmd 1) := X
  show WW y l E 3 _ 0 [(0, .ref (ad y 13)), (1, .int a0)] [] σ (T_X3_row a0 σ)
  unfold T_X3_row
  refine r_iload_n (pc := 0) X dX3_row_0 1 rfl rfl ?_
  refine r_iconst (pc := 1) X dX3_row_1 kc_0 ?_
  refine r_bipush (pc := 2) X dX3_row_2 kb_99 ?_
  refine r_callsp (pc := 4) X dX3_row_4 cf_X3_bound ml_X3_95 (rf rfl rfl) hy (fun b hb => m_X3_bound hb) rfl rfl (Nat.le_of_ble_eq_true rfl) (fun x1 => ?_)
  refine r_istore_n (pc := 7) (lv' := [(2, .int _), (0, .ref _), (1, .int _)]) X dX3_row_7 rfl (by decide) rfl ?_
  refine r_iload_n (pc := 8) X dX3_row_8 0 rfl rfl ?_
  refine r_if_ne (pc := 9) (tgt := 24) X dX3_row_9 (by decide) ?_ ?_
  · refine r_sub [1, 2, 0] rfl ?_
    exact s_X3_row_j24 X Z hy a0 x1 σ
  · refine r_aload_n (pc := 12) X dX3_row_12 1 rfl rfl ?_
    refine r_geti (pc := 13) X dX3_row_13 fl_X3_314 oc_13 rfl (fun x3 => ?_)
    refine r_bipush (pc := 16) X dX3_row_16 kb_12 ?_
    refine r_icmp_ne (pc := 18) (tgt := 24) X dX3_row_18 (by decide) ?_ ?_
    · refine r_sub [1, 2, 0] rfl ?_
      exact s_X3_row_j24 X Z hy a0 x1 σ
    · refine r_bipush (pc := 21) X dX3_row_21 kb_m6 ?_
      refine r_istore_n (pc := 23) (lv' := [(2, .int _), (0, .ref _), (1, .int _)]) X dX3_row_23 rfl (by decide) rfl ?_
      refine r_sub [1, 2, 0] rfl ?_
      exact s_X3_row_j24 X Z hy a0 ((-6)) σ

set_option maxRecDepth 100000 in
theorem s_X3_judge_j67 {y : LY} {l : Launch} {E : ET} (X : CX y l E cX3_judge 5 RX3 (rmd 6)) (Z : ZX E (some .int)) (hy : y.1 ≤ (eS E).heap.size)   {K34 : Int32 → Int32 → Int32 → Int32 → ST → Option (Int32 × ST)} (hK34 : ∀ (v1 : Int32) (v2 : Int32) (v3 : Int32) (v4 : Int32) (σ : ST), WW y l E 5 (fun a => QM y E (xI a)) 34 [(0, .ref (ad y 13)), (1, .int v1), (2, .int v2), (3, .int v3), (4, .int v4)] [] σ (K34 v1 v2 v3 v4 σ)) (v1 : Int32) (v2 : Int32) (v4 : Int32) (s0 : Int32) (σ : ST) : WW y l E 5 (fun a => QM y E (xI a)) 67 [(0, .ref (ad y 13)), (1, .int v1), (2, .int v2), (4, .int v4)] [.int s0] σ (T_X3_judge_j67 K34  v1 v2 v4 s0 σ) := by
  unfold T_X3_judge_j67
  refine r_istore_n (pc := 67) (lv' := [(3, .int _), (0, .ref _), (1, .int _), (2, .int _), (4, .int _)]) X dX3_judge_67 rfl (by decide) rfl ?_
  refine r_aload_n (pc := 68) X dX3_judge_68 1 rfl rfl ?_
  refine r_iconst (pc := 69) X dX3_judge_69 kc_0 ?_
  refine r_callvV (pc := 70) X dX3_judge_70 cf_X3_goesHour ml_X3_130 (rf rfl rfl) hy oc_13.1 hc_3 (fun b hb => m_X3_goesHour hb) rfl rfl (Nat.le_of_ble_eq_true rfl) (fun σ2 => ?_)
  refine r_iinc (pc := 73) (lv' := [(3, .int _), (0, .ref _), (1, .int _), (2, .int _)]) X dX3_judge_73 4 rfl (congrArg (fun z => v4 + z) kc_1) (by decide) rfl (fun x3 => ?_)
  refine r_goto (pc := 76) (tgt := 34) X dX3_judge_76 (by decide) ?_
  refine r_sub [2, 3, 4, 1, 0] rfl ?_
  exact hK34 v1 v2 s0 x3 σ2

set_option maxRecDepth 100000 in
theorem s_X3_judge_j79 {y : LY} {l : Launch} {E : ET} (X : CX y l E cX3_judge 5 RX3 (rmd 6)) (Z : ZX E (some .int)) (hy : y.1 ≤ (eS E).heap.size)     (v3 : Int32) (σ : ST) : WW y l E 5 (fun a => QM y E (xI a)) 79 [(0, .ref (ad y 13)), (3, .int v3)] [] σ (T_X3_judge_j79   v3 σ) := by
  unfold T_X3_judge_j79
  refine r_aload_n (pc := 79) X dX3_judge_79 0 rfl rfl ?_
  refine r_callvV (pc := 80) X dX3_judge_80 cf_X3_forgets ml_X3_241 (rf rfl rfl) hy oc_13.1 hc_3 (fun b hb => m_X3_forgets hb) rfl rfl (Nat.le_of_ble_eq_true rfl) (fun σ2 => ?_)
  refine r_iload_n (pc := 83) X dX3_judge_83 1 rfl rfl ?_
  exact r_iret (pc := 84) X Z dX3_judge_84 rfl

set_option maxRecDepth 100000 in
theorem s_X3_judge_L34 {y : LY} {l : Launch} {E : ET} (X : CX y l E cX3_judge 5 RX3 (rmd 6)) (Z : ZX E (some .int)) (hy : y.1 ≤ (eS E).heap.size)     (n : Nat) : ∀ (v1 : Int32) (v2 : Int32) (v3 : Int32) (v4 : Int32) (σ : ST), WW y l E 5 (fun a => QM y E (xI a)) 34 [(0, .ref (ad y 13)), (1, .int v1), (2, .int v2), (3, .int v3), (4, .int v4)] [] σ (T_X3_judge_L34  n v1 v2 v3 v4 σ) := by
  induction n with
  | zero => intros; exact r_none rfl
  | succ n ih =>
    intro v1 v2 v3 v4 σ
    unfold T_X3_judge_L34
    refine r_iload (pc := 34) X dX3_judge_34 4 rfl ?_
    refine r_iload_n (pc := 36) X dX3_judge_36 2 rfl rfl ?_
    refine r_icmp_ge (pc := 37) (tgt := 79) X dX3_judge_37 (by decide) ?_ ?_
    · refine r_sub [0, 3] rfl ?_
      exact s_X3_judge_j79 X Z hy v3 σ
    · refine r_iload_n (pc := 40) X dX3_judge_40 3 rfl rfl ?_
      refine r_if_ge (pc := 41) (tgt := 79) X dX3_judge_41 (by decide) ?_ ?_
      · refine r_sub [0, 3] rfl ?_
        exact s_X3_judge_j79 X Z hy v3 σ
      · refine r_aload_n (pc := 44) X dX3_judge_44 0 rfl rfl ?_
        refine r_geta (pc := 45) X dX3_judge_45 fl_X3_34 oc_13 (by decide) ?_
        refine r_iload_n (pc := 48) X dX3_judge_48 1 rfl rfl ?_
        refine r_iald (pc := 49) X dX3_judge_49 ar_13_8 (fun x1 => ?_)
        refine r_aload_n (pc := 50) X dX3_judge_50 0 rfl rfl ?_
        refine r_geta (pc := 51) X dX3_judge_51 fl_X3_74 oc_13 (by decide) ?_
        refine r_iload (pc := 54) X dX3_judge_54 4 rfl ?_
        refine r_iald (pc := 56) X dX3_judge_56 ar_13_34 (fun x2 => ?_)
        refine r_icmp_ne (pc := 57) (tgt := 65) X dX3_judge_57 (by decide) ?_ ?_
        · refine r_iload (pc := 65) X dX3_judge_65 4 rfl ?_
          refine r_sub [0, 1, 2, 4] rfl ?_
          exact s_X3_judge_j67 X Z hy (fun v1 v2 v3 v4 s => ih v1 v2 v3 v4 s) v1 v2 v4 v4 σ
        · refine r_bipush (pc := 60) X dX3_judge_60 kb_m9 ?_
          refine r_goto (pc := 62) (tgt := 67) X dX3_judge_62 (by decide) ?_
          refine r_sub [0, 1, 2, 4] rfl ?_
          exact s_X3_judge_j67 X Z hy (fun v1 v2 v3 v4 s => ih v1 v2 v3 v4 s) v1 v2 v4 ((-9)) σ

set_option maxRecDepth 100000 in
theorem m_X3_judge {y : LY} {l : Launch}  {a0 : Int32} {σ : ST} {a : (Int32 × ST)} (h : T_X3_judge a0 σ = some a) : MU y l yX3_judge cX3_judge 5 (some .int) (rmd 6) [.ref (ad y 13), .int a0] σ (xI a) := by
  refine MU.of (φ := xI) h (by decide +kernel) rfl (fun E X Z hy => ?_)
  have X : CX y l E cX3_judge 5 RX3 (rmd 6) := X
  show WW y l E 5 _ 0 [(0, .ref (ad y 13)), (1, .int a0)] [] σ (T_X3_judge a0 σ)
  unfold T_X3_judge
  refine r_aload_n (pc := 0) X dX3_judge_0 0 rfl rfl ?_
  refine r_iload_n (pc := 1) X dX3_judge_1 1 rfl rfl ?_
  refine r_callvp (pc := 2) X dX3_judge_2 cf_X3_isBearer ml_X3_91 (rf rfl rfl) hy oc_13.1 hc_3 (fun b hb => m_X3_isBearer hb) rfl rfl (Nat.le_of_ble_eq_true rfl) (fun x1 => ?_)
  refine r_if_ne (pc := 5) (tgt := 14) X dX3_judge_5 (by decide) ?_ ?_
  · refine r_aload_n (pc := 14) X dX3_judge_14 0 rfl rfl ?_
    refine r_geti (pc := 15) X dX3_judge_15 fl_X3_314 oc_13 rfl (fun x3 => ?_)
    refine r_istore_n (pc := 18) (lv' := [(2, .int _), (0, .ref _), (1, .int _)]) X dX3_judge_18 rfl (by decide) rfl ?_
    refine r_aload_n (pc := 19) X dX3_judge_19 1 rfl rfl ?_
    refine r_iconst (pc := 20) X dX3_judge_20 kc_0 ?_
    refine r_puti (pc := 21) X dX3_judge_21 fl_X3_314 fw_3_35 oc_13 rfl (fun σ4 => ?_)
    refine r_aload_n (pc := 24) X dX3_judge_24 1 rfl rfl ?_
    refine r_callvV (pc := 25) X dX3_judge_25 cf_X3_thinks ml_X3_238 (rf rfl rfl) hy oc_13.1 hc_3 (fun b hb => m_X3_thinks hb) rfl rfl (Nat.le_of_ble_eq_true rfl) (fun σ6 => ?_)
    refine r_bipush (pc := 28) X dX3_judge_28 kb_m9 ?_
    refine r_istore_n (pc := 30) (lv' := [(3, .int _), (2, .int _), (0, .ref _), (1, .int _)]) X dX3_judge_30 rfl (by decide) rfl ?_
    refine r_iconst (pc := 31) X dX3_judge_31 kc_0 ?_
    refine r_istore (pc := 32) (lv' := [(4, .int _), (3, .int _), (2, .int _), (0, .ref _), (1, .int _)]) X dX3_judge_32 (by decide) rfl ?_
    refine r_sub [3, 4, 2, 1, 0] rfl ?_
    exact s_X3_judge_L34 X Z hy FU a0 x3 ((-9)) 0 σ6
  · refine r_aload_n (pc := 8) X dX3_judge_8 0 rfl rfl ?_
    refine r_iconst (pc := 9) X dX3_judge_9 kc_m1 ?_
    refine r_callvI (pc := 10) X dX3_judge_10 cf_X3_no ml_X3_102 (rf rfl rfl) hy oc_13.1 hc_3 (fun b hb => m_X3_no hb) rfl rfl (Nat.le_of_ble_eq_true rfl) (fun x7 σ8 => ?_)
    exact r_iret (pc := 13) X Z dX3_judge_13 rfl

set_option maxRecDepth 100000 in
theorem m_X3_clear {y : LY} {l : Launch}   {σ : ST} {a : (Int32 × ST)} (h : T_X3_clear σ = some a) : MU y l yX3_clear cX3_clear 2 (some .int) (rmd 0) [.ref (ad y 13)] σ (xI a) := by
  refine MU.of (φ := xI) h (by decide +kernel) rfl (fun E X Z hy => ?_)
  have X : CX y l E cX3_clear 2 RX3 (rmd 0) := X
  show WW y l E 2 _ 0 [(0, .ref (ad y 13))] [] σ (T_X3_clear σ)
  unfold T_X3_clear
  refine r_aload_n (pc := 0) X dX3_clear_0 0 rfl rfl ?_
  refine r_geti (pc := 1) X dX3_clear_1 fl_X3_314 oc_13 rfl (fun x1 => ?_)
  refine r_istore_n (pc := 4) (lv' := [(1, .int _), (0, .ref _)]) X dX3_clear_4 rfl (by decide) rfl ?_
  refine r_aload_n (pc := 5) X dX3_clear_5 1 rfl rfl ?_
  refine r_iconst (pc := 6) X dX3_clear_6 kc_0 ?_
  refine r_puti (pc := 7) X dX3_clear_7 fl_X3_314 fw_3_35 oc_13 rfl (fun σ2 => ?_)
  refine r_iload_n (pc := 10) X dX3_clear_10 0 rfl rfl ?_
  exact r_iret (pc := 11) X Z dX3_clear_11 rfl

set_option maxRecDepth 100000 in
theorem s_X3_lots_L124 {y : LY} {l : Launch} {E : ET} (X : CX y l E cX3_lots 10 RX3 (rmd 7)) (Z : ZX E (some .int)) (hy : y.1 ≤ (eS E).heap.size)   {K51 : Int32 → Int32 → Int32 → Int32 → Int32 → Int32 → ST → Option (Int32 × ST)} (hK51 : ∀ (v1 : Int32) (v3 : Int32) (v5 : Int32) (v6 : Int32) (v7 : Int32) (v8 : Int32) (σ : ST), WW y l E 10 (fun a => QM y E (xI a)) 51 [(0, .ref (ad y 13)), (1, .int v1), (3, .int v3), (5, .int v5), (6, .int v6), (7, .int v7), (8, .int v8)] [] σ (K51 v1 v3 v5 v6 v7 v8 σ)) (n : Nat) : ∀ (v1 : Int32) (v3 : Int32) (v5 : Int32) (v6 : Int32) (v7 : Int32) (v8 : Int32) (v9 : Int32) (σ : ST), WW y l E 10 (fun a => QM y E (xI a)) 124 [(0, .ref (ad y 13)), (1, .int v1), (3, .int v3), (5, .int v5), (6, .int v6), (7, .int v7), (8, .int v8), (9, .int v9)] [] σ (T_X3_lots_L124 K51 n v1 v3 v5 v6 v7 v8 v9 σ) := by
  induction n with
  | zero => intros; exact r_none rfl
  | succ n ih =>
    intro v1 v3 v5 v6 v7 v8 v9 σ
    unfold T_X3_lots_L124
    refine r_iload (pc := 124) X dX3_lots_124 7 rfl ?_
    refine r_aload_n (pc := 126) X dX3_lots_126 0 rfl rfl ?_
    refine r_geti (pc := 127) X dX3_lots_127 fl_X3_88 oc_13 rfl (fun x1 => ?_)
    refine r_icmp_ge (pc := 130) (tgt := 151) X dX3_lots_130 (by decide) ?_ ?_
    · refine r_iload (pc := 151) X dX3_lots_151 5 rfl ?_
      refine r_aload_n (pc := 153) X dX3_lots_153 0 rfl rfl ?_
      refine r_geti (pc := 154) X dX3_lots_154 fl_X3_217 oc_13 rfl (fun x2 => ?_)
      refine r_iadd (pc := 157) X dX3_lots_157 ?_
      refine r_vl (fun x3 => ?_)
      refine r_istore (pc := 158) (lv' := [(7, .int _), (0, .ref _), (1, .int _), (3, .int _), (5, .int _), (6, .int _), (8, .int _), (9, .int _)]) X dX3_lots_158 (by decide) rfl ?_
      refine r_aload_n (pc := 160) X dX3_lots_160 1 rfl rfl ?_
      refine r_callvV (pc := 161) X dX3_lots_161 cf_X3_forgets ml_X3_241 (rf rfl rfl) hy oc_13.1 hc_3 (fun b hb => m_X3_forgets hb) rfl rfl (Nat.le_of_ble_eq_true rfl) (fun σ5 => ?_)
      refine r_iinc (pc := 164) (lv' := [(7, .int _), (0, .ref _), (1, .int _), (3, .int _), (5, .int _), (6, .int _), (9, .int _)]) X dX3_lots_164 6 rfl (congrArg (fun z => v8 + z) kc_1) (by decide) rfl (fun x6 => ?_)
      refine r_goto (pc := 167) (tgt := 51) X dX3_lots_167 (by decide) ?_
      refine r_sub [2, 3, 4, 5, 6, 1, 0] rfl ?_
      exact hK51 v1 v3 v5 v6 x3 x6 σ5
    · refine r_iload (pc := 133) X dX3_lots_133 4 rfl ?_
      refine r_aload_n (pc := 135) X dX3_lots_135 0 rfl rfl ?_
      refine r_geta (pc := 136) X dX3_lots_136 fl_X3_58 oc_13 (by decide) ?_
      refine r_iload (pc := 139) X dX3_lots_139 7 rfl ?_
      refine r_iald (pc := 141) X dX3_lots_141 ar_13_27 (fun x7 => ?_)
      refine r_iadd (pc := 142) X dX3_lots_142 ?_
      refine r_vl (fun x8 => ?_)
      refine r_istore (pc := 143) (lv' := [(6, .int _), (0, .ref _), (1, .int _), (3, .int _), (5, .int _), (7, .int _), (8, .int _), (9, .int _)]) X dX3_lots_143 (by decide) rfl ?_
      refine r_iinc (pc := 145) (lv' := [(6, .int _), (0, .ref _), (1, .int _), (3, .int _), (5, .int _), (7, .int _), (8, .int _)]) X dX3_lots_145 7 rfl (congrArg (fun z => v9 + z) kc_1) (by decide) rfl (fun x9 => ?_)
      refine r_goto (pc := 148) (tgt := 124) X dX3_lots_148 (by decide) ?_
      refine r_sub [2, 3, 4, 5, 1, 6, 7, 0] rfl ?_
      exact ih v1 v3 v5 x8 v7 v8 x9 σ

set_option maxRecDepth 100000 in
theorem s_X3_lots_L68 {y : LY} {l : Launch} {E : ET} (X : CX y l E cX3_lots 10 RX3 (rmd 7)) (Z : ZX E (some .int)) (hy : y.1 ≤ (eS E).heap.size)   {K51 : Int32 → Int32 → Int32 → Int32 → Int32 → Int32 → ST → Option (Int32 × ST)} (hK51 : ∀ (v1 : Int32) (v3 : Int32) (v5 : Int32) (v6 : Int32) (v7 : Int32) (v8 : Int32) (σ : ST), WW y l E 10 (fun a => QM y E (xI a)) 51 [(0, .ref (ad y 13)), (1, .int v1), (3, .int v3), (5, .int v5), (6, .int v6), (7, .int v7), (8, .int v8)] [] σ (K51 v1 v3 v5 v6 v7 v8 σ)) (n : Nat) : ∀ (v1 : Int32) (v3 : Int32) (v5 : Int32) (v6 : Int32) (v7 : Int32) (v8 : Int32) (v9 : Int32) (σ : ST), WW y l E 10 (fun a => QM y E (xI a)) 68 [(0, .ref (ad y 13)), (1, .int v1), (3, .int v3), (5, .int v5), (6, .int v6), (7, .int v7), (8, .int v8), (9, .int v9)] [] σ (T_X3_lots_L68 K51 n v1 v3 v5 v6 v7 v8 v9 σ) := by
  induction n with
  | zero => intros; exact r_none rfl
  | succ n ih =>
    intro v1 v3 v5 v6 v7 v8 v9 σ
    unfold T_X3_lots_L68
    refine r_iload (pc := 68) X dX3_lots_68 7 rfl ?_
    refine r_aload_n (pc := 70) X dX3_lots_70 0 rfl rfl ?_
    refine r_geti (pc := 71) X dX3_lots_71 fl_X3_88 oc_13 rfl (fun x1 => ?_)
    refine r_icmp_ge (pc := 74) (tgt := 115) X dX3_lots_74 (by decide) ?_ ?_
    · refine r_aload_n (pc := 115) X dX3_lots_115 0 rfl rfl ?_
      refine r_bipush (pc := 116) X dX3_lots_116 kb_24 ?_
      refine r_callvV (pc := 118) X dX3_lots_118 cf_X3_goes ml_X3_232 (rf rfl rfl) hy oc_13.1 hc_3 (fun b hb => m_X3_goes hb) rfl rfl (Nat.le_of_ble_eq_true rfl) (fun σ3 => ?_)
      refine r_iconst (pc := 121) X dX3_lots_121 kc_0 ?_
      refine r_istore (pc := 122) (lv' := [(9, .int _), (0, .ref _), (1, .int _), (3, .int _), (5, .int _), (6, .int _), (7, .int _), (8, .int _)]) X dX3_lots_122 (by decide) rfl ?_
      refine r_sub [1, 2, 3, 4, 5, 6, 7, 0] rfl ?_
      exact s_X3_lots_L124 X Z hy hK51 FU v1 v3 v5 v6 v7 v8 0 σ3
    · refine r_iload (pc := 77) X dX3_lots_77 3 rfl ?_
      refine r_ldcw (pc := 79) X dX3_lots_79 lc_X3_356 ?_
      refine r_imul (pc := 82) X dX3_lots_82 ?_
      refine r_sipush (pc := 83) X dX3_lots_83 ks_12345 ?_
      refine r_iadd (pc := 86) X dX3_lots_86 ?_
      refine r_vl (fun x4 => ?_)
      refine r_istore (pc := 87) (lv' := [(5, .int _), (0, .ref _), (1, .int _), (3, .int _), (6, .int _), (7, .int _), (8, .int _), (9, .int _)]) X dX3_lots_87 (by decide) rfl ?_
      refine r_aload_n (pc := 89) X dX3_lots_89 1 rfl rfl ?_
      refine r_geta (pc := 90) X dX3_lots_90 fl_X3_31 oc_13 (by decide) ?_
      refine r_iload (pc := 93) X dX3_lots_93 7 rfl ?_
      refine r_iload (pc := 95) X dX3_lots_95 0 rfl ?_
      refine r_ldcw (pc := 97) X dX3_lots_97 lc_X3_357 ?_
      refine r_iand (pc := 100) X dX3_lots_100 ?_
      refine r_ldcw (pc := 101) X dX3_lots_101 lc_X3_358 ?_
      refine r_idiv (pc := 104) X dX3_lots_104 (by decide) ?_
      refine r_bipush (pc := 105) X dX3_lots_105 kb_10 ?_
      refine r_irem (pc := 107) X dX3_lots_107 (by decide) ?_
      refine r_iast (pc := 108) X dX3_lots_108 ar_13_7 (fun σ5 => ?_)
      refine r_iinc (pc := 109) (lv' := [(5, .int _), (0, .ref _), (1, .int _), (3, .int _), (6, .int _), (7, .int _), (8, .int _)]) X dX3_lots_109 7 rfl (congrArg (fun z => v9 + z) kc_1) (by decide) rfl (fun x6 => ?_)
      refine r_goto (pc := 112) (tgt := 68) X dX3_lots_112 (by decide) ?_
      refine r_sub [2, 3, 4, 1, 5, 6, 7, 0] rfl ?_
      exact ih v1 v3 x4 v6 v7 v8 x6 σ5

set_option maxRecDepth 100000 in
theorem s_X3_lots_L51 {y : LY} {l : Launch} {E : ET} (X : CX y l E cX3_lots 10 RX3 (rmd 7)) (Z : ZX E (some .int)) (hy : y.1 ≤ (eS E).heap.size)     (n : Nat) : ∀ (v1 : Int32) (v3 : Int32) (v5 : Int32) (v6 : Int32) (v7 : Int32) (v8 : Int32) (σ : ST), WW y l E 10 (fun a => QM y E (xI a)) 51 [(0, .ref (ad y 13)), (1, .int v1), (3, .int v3), (5, .int v5), (6, .int v6), (7, .int v7), (8, .int v8)] [] σ (T_X3_lots_L51  n v1 v3 v5 v6 v7 v8 σ) := by
  induction n with
  | zero => intros; exact r_none rfl
  | succ n ih =>
    intro v1 v3 v5 v6 v7 v8 σ
    unfold T_X3_lots_L51
    refine r_iload (pc := 51) X dX3_lots_51 6 rfl ?_
    refine r_iload_n (pc := 53) X dX3_lots_53 1 rfl rfl ?_
    refine r_icmp_ge (pc := 54) (tgt := 170) X dX3_lots_54 (by decide) ?_ ?_
    · refine r_iload_n (pc := 170) X dX3_lots_170 2 rfl rfl ?_
      refine r_if_ne (pc := 171) (tgt := 179) X dX3_lots_171 (by decide) ?_ ?_
      · refine r_iload (pc := 179) X dX3_lots_179 5 rfl ?_
        exact r_iret (pc := 181) X Z dX3_lots_181 rfl
      · refine r_iload (pc := 174) X dX3_lots_174 4 rfl ?_
        refine r_goto (pc := 176) (tgt := 181) X dX3_lots_176 (by decide) ?_
        exact r_iret (pc := 181) X Z dX3_lots_181 rfl
    · refine r_aload_n (pc := 57) X dX3_lots_57 0 rfl rfl ?_
      refine r_callvV (pc := 58) X dX3_lots_58 cf_X3_thinks ml_X3_238 (rf rfl rfl) hy oc_13.1 hc_3 (fun b hb => m_X3_thinks hb) rfl rfl (Nat.le_of_ble_eq_true rfl) (fun σ2 => ?_)
      refine r_aload_n (pc := 61) X dX3_lots_61 0 rfl rfl ?_
      refine r_callvV (pc := 62) X dX3_lots_62 cf_X3_counts ml_X3_229 (rf rfl rfl) hy oc_13.1 hc_3 (fun b hb => m_X3_counts hb) rfl rfl (Nat.le_of_ble_eq_true rfl) (fun σ4 => ?_)
      refine r_iconst (pc := 65) X dX3_lots_65 kc_0 ?_
      refine r_istore (pc := 66) (lv' := [(9, .int _), (0, .ref _), (1, .int _), (3, .int _), (5, .int _), (6, .int _), (7, .int _), (8, .int _)]) X dX3_lots_66 (by decide) rfl ?_
      refine r_sub [1, 2, 3, 4, 5, 6, 7, 0] rfl ?_
      exact s_X3_lots_L68 X Z hy (fun v1 v3 v5 v6 v7 v8 s => ih v1 v3 v5 v6 v7 v8 s) FU v1 v3 v5 v6 v7 v8 0 σ4

set_option maxRecDepth 100000 in
theorem s_X3_lots_j27 {y : LY} {l : Launch} {E : ET} (X : CX y l E cX3_lots 10 RX3 (rmd 7)) (Z : ZX E (some .int)) (hy : y.1 ≤ (eS E).heap.size)     (v1 : Int32) (v2 : Int32) (v3 : Int32) (v4 : Int32) (σ : ST) : WW y l E 10 (fun a => QM y E (xI a)) 27 [(0, .ref (ad y 13)), (1, .int v1), (2, .int v2), (3, .int v3), (4, .int v4)] [] σ (T_X3_lots_j27   v1 v2 v3 v4 σ) := by
  unfold T_X3_lots_j27
  refine r_iload (pc := 27) X dX3_lots_27 4 rfl ?_
  refine r_if_eq (pc := 29) (tgt := 39) X dX3_lots_29 (by decide) ?_ ?_
  · refine r_iload_n (pc := 39) X dX3_lots_39 2 rfl rfl ?_
    refine r_istore (pc := 40) (lv' := [(5, .int _), (0, .ref _), (1, .int _), (2, .int _), (3, .int _), (4, .int _)]) X dX3_lots_40 (by decide) rfl ?_
    refine r_iconst (pc := 42) X dX3_lots_42 kc_0 ?_
    refine r_istore (pc := 43) (lv' := [(6, .int _), (5, .int _), (0, .ref _), (1, .int _), (2, .int _), (3, .int _), (4, .int _)]) X dX3_lots_43 (by decide) rfl ?_
    refine r_iconst (pc := 45) X dX3_lots_45 kc_0 ?_
    refine r_istore (pc := 46) (lv' := [(7, .int _), (6, .int _), (5, .int _), (0, .ref _), (1, .int _), (2, .int _), (3, .int _), (4, .int _)]) X dX3_lots_46 (by decide) rfl ?_
    refine r_iconst (pc := 48) X dX3_lots_48 kc_0 ?_
    refine r_istore (pc := 49) (lv' := [(8, .int _), (7, .int _), (6, .int _), (5, .int _), (0, .ref _), (1, .int _), (2, .int _), (3, .int _), (4, .int _)]) X dX3_lots_49 (by decide) rfl ?_
    refine r_sub [4, 5, 7, 3, 2, 1, 0] rfl ?_
    exact s_X3_lots_L51 X Z hy FU v1 v3 v2 0 0 0 σ
  · refine r_aload_n (pc := 32) X dX3_lots_32 0 rfl rfl ?_
    refine r_iload (pc := 33) X dX3_lots_33 4 rfl ?_
    refine r_callvI (pc := 35) X dX3_lots_35 cf_X3_no ml_X3_102 (rf rfl rfl) hy oc_13.1 hc_3 (fun b hb => m_X3_no hb) rfl rfl (Nat.le_of_ble_eq_true rfl) (fun x1 σ2 => ?_)
    exact r_iret (pc := 38) X Z dX3_lots_38 rfl

set_option maxRecDepth 100000 in
theorem m_X3_lots {y : LY} {l : Launch}  {a0 : Int32} {a1 : Int32} {a2 : Int32} {σ : ST} {a : (Int32 × ST)} (h : T_X3_lots a0 a1 a2 σ = some a) : MU y l yX3_lots cX3_lots 10 (some .int) (rmd 7) [.ref (ad y 13), .int a0, .int a1, .int a2] σ (xI a) := by
  refine MU.of (φ := xI) h (by decide +kernel) rfl (fun E X Z hy => ?_)
  have X : CX y l E cX3_lots 10 RX3 (rmd 7) := X
  show WW y l E 10 _ 0 [(0, .ref (ad y 13)), (1, .int a0), (2, .int a1), (3, .int a2)] [] σ (T_X3_lots a0 a1 a2 σ)
  unfold T_X3_lots
  refine r_iload_n (pc := 0) X dX3_lots_0 1 rfl rfl ?_
  refine r_iconst (pc := 1) X dX3_lots_1 kc_1 ?_
  refine r_bipush (pc := 2) X dX3_lots_2 kb_20 ?_
  refine r_callsp (pc := 4) X dX3_lots_4 cf_X3_bound ml_X3_95 (rf rfl rfl) hy (fun b hb => m_X3_bound hb) rfl rfl (Nat.le_of_ble_eq_true rfl) (fun x1 => ?_)
  refine r_istore (pc := 7) (lv' := [(4, .int _), (0, .ref _), (1, .int _), (2, .int _), (3, .int _)]) X dX3_lots_7 (by decide) rfl ?_
  refine r_iload (pc := 9) X dX3_lots_9 0 rfl ?_
  refine r_if_ne (pc := 11) (tgt := 27) X dX3_lots_11 (by decide) ?_ ?_
  · refine r_sub [1, 2, 3, 4, 0] rfl ?_
    exact s_X3_lots_j27 X Z hy a0 a1 a2 x1 σ
  · refine r_iload_n (pc := 14) X dX3_lots_14 4 rfl rfl ?_
    refine r_iconst (pc := 15) X dX3_lots_15 kc_0 ?_
    refine r_iconst (pc := 16) X dX3_lots_16 kc_1 ?_
    refine r_callsp (pc := 17) X dX3_lots_17 cf_X3_isIn ml_X3_113 (rf rfl rfl) hy (fun b hb => m_X3_isIn hb) rfl rfl (Nat.le_of_ble_eq_true rfl) (fun x3 => ?_)
    refine r_if_ne (pc := 20) (tgt := 27) X dX3_lots_20 (by decide) ?_ ?_
    · refine r_sub [1, 2, 3, 4, 0] rfl ?_
      exact s_X3_lots_j27 X Z hy a0 a1 a2 x1 σ
    · refine r_bipush (pc := 23) X dX3_lots_23 kb_m2 ?_
      refine r_istore (pc := 25) (lv' := [(4, .int _), (0, .ref _), (1, .int _), (2, .int _), (3, .int _)]) X dX3_lots_25 (by decide) rfl ?_
      refine r_sub [1, 2, 3, 4, 0] rfl ?_
      exact s_X3_lots_j27 X Z hy a0 a1 a2 ((-2)) σ

set_option maxRecDepth 100000 in
theorem s_X3_count_L102 {y : LY} {l : Launch} {E : ET} (X : CX y l E cX3_count 4 RX3 (rmd 4)) (Z : ZX E (some .int)) (hy : y.1 ≤ (eS E).heap.size)  {σ : ST}   (n : Nat) : ∀ (v2 : Int32) (v3 : Int32), WW y l E 4 (fun a => QM y E (xp σ a)) 102 [(0, .ref (ad y 13)), (2, .int v2), (3, .int v3)] [] σ (T_X3_count_L102 σ n v2 v3) := by
  induction n with
  | zero => intros; exact r_none rfl
  | succ n ih =>
    intro v2 v3
    unfold T_X3_count_L102
    refine r_iload_n (pc := 102) X dX3_count_102 2 rfl rfl ?_
    refine r_aload_n (pc := 103) X dX3_count_103 0 rfl rfl ?_
    refine r_geti (pc := 104) X dX3_count_104 fl_X3_88 oc_13 rfl (fun x1 => ?_)
    refine r_icmp_ge (pc := 107) (tgt := 135) X dX3_count_107 (by decide) ?_ ?_
    · refine r_iload_n (pc := 135) X dX3_count_135 1 rfl rfl ?_
      exact r_iret (pc := 136) X Z dX3_count_136 rfl
    · refine r_iload_n (pc := 110) X dX3_count_110 1 rfl rfl ?_
      refine r_aload_n (pc := 111) X dX3_count_111 0 rfl rfl ?_
      refine r_geta (pc := 112) X dX3_count_112 fl_X3_37 oc_13 (by decide) ?_
      refine r_iload_n (pc := 115) X dX3_count_115 2 rfl rfl ?_
      refine r_iald (pc := 116) X dX3_count_116 ar_13_9 (fun x2 => ?_)
      refine r_bipush (pc := 117) X dX3_count_117 kb_9 ?_
      refine r_icmp_ge (pc := 119) (tgt := 126) X dX3_count_119 (by decide) ?_ ?_
      · refine r_iconst (pc := 126) X dX3_count_126 kc_0 ?_
        refine r_iadd (pc := 127) X dX3_count_127 ?_
        refine r_vl (fun x3 => ?_)
        refine r_istore_n (pc := 128) (lv' := [(2, .int _), (0, .ref _), (3, .int _)]) X dX3_count_128 rfl (by decide) rfl ?_
        refine r_iinc (pc := 129) (lv' := [(2, .int _), (0, .ref _)]) X dX3_count_129 2 rfl (congrArg (fun z => v3 + z) kc_1) (by decide) rfl (fun x4 => ?_)
        refine r_goto (pc := 132) (tgt := 102) X dX3_count_132 (by decide) ?_
        refine r_sub [2, 1, 0] rfl ?_
        exact ih x3 x4
      · refine r_iconst (pc := 122) X dX3_count_122 kc_1 ?_
        refine r_goto (pc := 123) (tgt := 127) X dX3_count_123 (by decide) ?_
        refine r_iadd (pc := 127) X dX3_count_127 ?_
        refine r_vl (fun x5 => ?_)
        refine r_istore_n (pc := 128) (lv' := [(2, .int _), (0, .ref _), (3, .int _)]) X dX3_count_128 rfl (by decide) rfl ?_
        refine r_iinc (pc := 129) (lv' := [(2, .int _), (0, .ref _)]) X dX3_count_129 2 rfl (congrArg (fun z => v3 + z) kc_1) (by decide) rfl (fun x6 => ?_)
        refine r_goto (pc := 132) (tgt := 102) X dX3_count_132 (by decide) ?_
        refine r_sub [2, 1, 0] rfl ?_
        exact ih x5 x6

set_option maxRecDepth 100000 in
theorem s_X3_count_L144 {y : LY} {l : Launch} {E : ET} (X : CX y l E cX3_count 4 RX3 (rmd 4)) (Z : ZX E (some .int)) (hy : y.1 ≤ (eS E).heap.size)  {σ : ST}   (n : Nat) : ∀ (v2 : Int32) (v3 : Int32), WW y l E 4 (fun a => QM y E (xp σ a)) 144 [(0, .ref (ad y 13)), (2, .int v2), (3, .int v3)] [] σ (T_X3_count_L144 σ n v2 v3) := by
  induction n with
  | zero => intros; exact r_none rfl
  | succ n ih =>
    intro v2 v3
    unfold T_X3_count_L144
    refine r_iload_n (pc := 144) X dX3_count_144 2 rfl rfl ?_
    refine r_aload_n (pc := 145) X dX3_count_145 0 rfl rfl ?_
    refine r_geti (pc := 146) X dX3_count_146 fl_X3_88 oc_13 rfl (fun x1 => ?_)
    refine r_icmp_ge (pc := 149) (tgt := 174) X dX3_count_149 (by decide) ?_ ?_
    · refine r_iload_n (pc := 174) X dX3_count_174 1 rfl rfl ?_
      exact r_iret (pc := 175) X Z dX3_count_175 rfl
    · refine r_iload_n (pc := 152) X dX3_count_152 1 rfl rfl ?_
      refine r_aload_n (pc := 153) X dX3_count_153 0 rfl rfl ?_
      refine r_iload_n (pc := 154) X dX3_count_154 2 rfl rfl ?_
      refine r_callvp (pc := 155) X dX3_count_155 cf_X3_isLed ml_X3_208 (rf rfl rfl) hy oc_13.1 hc_3 (fun b hb => m_X3_isLed hb) rfl rfl (Nat.le_of_ble_eq_true rfl) (fun x2 => ?_)
      refine r_if_eq (pc := 158) (tgt := 165) X dX3_count_158 (by decide) ?_ ?_
      · refine r_iconst (pc := 165) X dX3_count_165 kc_0 ?_
        refine r_iadd (pc := 166) X dX3_count_166 ?_
        refine r_vl (fun x4 => ?_)
        refine r_istore_n (pc := 167) (lv' := [(2, .int _), (0, .ref _), (3, .int _)]) X dX3_count_167 rfl (by decide) rfl ?_
        refine r_iinc (pc := 168) (lv' := [(2, .int _), (0, .ref _)]) X dX3_count_168 2 rfl (congrArg (fun z => v3 + z) kc_1) (by decide) rfl (fun x5 => ?_)
        refine r_goto (pc := 171) (tgt := 144) X dX3_count_171 (by decide) ?_
        refine r_sub [2, 1, 0] rfl ?_
        exact ih x4 x5
      · refine r_iconst (pc := 161) X dX3_count_161 kc_1 ?_
        refine r_goto (pc := 162) (tgt := 166) X dX3_count_162 (by decide) ?_
        refine r_iadd (pc := 166) X dX3_count_166 ?_
        refine r_vl (fun x6 => ?_)
        refine r_istore_n (pc := 167) (lv' := [(2, .int _), (0, .ref _), (3, .int _)]) X dX3_count_167 rfl (by decide) rfl ?_
        refine r_iinc (pc := 168) (lv' := [(2, .int _), (0, .ref _)]) X dX3_count_168 2 rfl (congrArg (fun z => v3 + z) kc_1) (by decide) rfl (fun x7 => ?_)
        refine r_goto (pc := 171) (tgt := 144) X dX3_count_171 (by decide) ?_
        refine r_sub [2, 1, 0] rfl ?_
        exact ih x6 x7

set_option maxRecDepth 100000 in
theorem m_X3_count {y : LY} {l : Launch}  {a0 : Int32} {σ : ST} {a : Int32} (h : T_X3_count σ a0 = some a) : MU y l yX3_count cX3_count 4 (some .int) (rmd 4) [.ref (ad y 13), .int a0] σ (xp σ a) := by
  refine MU.of (φ := xp σ) h (by decide +kernel) rfl (fun E X Z hy => ?_)
  have X : CX y l E cX3_count 4 RX3 (rmd 4) := X
  show WW y l E 4 _ 0 [(0, .ref (ad y 13)), (1, .int a0)] [] σ (T_X3_count σ a0)
  unfold T_X3_count
  refine r_iload_n (pc := 0) X dX3_count_0 1 rfl rfl ?_
  refine r_bipush (pc := 1) X dX3_count_1 kb_11 ?_
  refine r_bipush (pc := 3) X dX3_count_3 kb_16 ?_
  refine r_callsp (pc := 5) X dX3_count_5 cf_X3_isIn ml_X3_113 (rf rfl rfl) hy (fun b hb => m_X3_isIn hb) rfl rfl (Nat.le_of_ble_eq_true rfl) (fun x1 => ?_)
  refine r_if_eq (pc := 8) (tgt := 21) X dX3_count_8 (by decide) ?_ ?_
  · refine r_iconst (pc := 21) X dX3_count_21 kc_0 ?_
    refine r_istore_n (pc := 22) (lv' := [(2, .int _), (0, .ref _), (1, .int _)]) X dX3_count_22 rfl (by decide) rfl ?_
    refine r_iload_n (pc := 23) X dX3_count_23 2 rfl rfl ?_
    refine r_ite (fun h0 => ?_) (fun h0 => ?_)
    · refine r_tabIn (pc := 24) (tgt := 80) (off := 56) X dX3_count_24 h0 (by decide) (by decide) (by decide) (by decide) ?_
      refine r_aload_n (pc := 80) X dX3_count_80 1 rfl rfl ?_
      refine r_geti (pc := 81) X dX3_count_81 fl_X3_83 oc_13 rfl (fun x11 => ?_)
      exact r_iret (pc := 84) X Z dX3_count_84 rfl
    · refine r_ite (fun h1 => ?_) (fun h1 => ?_)
      · refine r_tabIn (pc := 24) (tgt := 85) (off := 61) X dX3_count_24 h1 (by decide) (by decide) (by decide) (by decide) ?_
        refine r_aload_n (pc := 85) X dX3_count_85 1 rfl rfl ?_
        refine r_geti (pc := 86) X dX3_count_86 fl_X3_88 oc_13 rfl (fun x10 => ?_)
        exact r_iret (pc := 89) X Z dX3_count_89 rfl
      · refine r_ite (fun h2 => ?_) (fun h2 => ?_)
        · refine r_tabIn (pc := 24) (tgt := 90) (off := 66) X dX3_count_24 h2 (by decide) (by decide) (by decide) (by decide) ?_
          refine r_aload_n (pc := 90) X dX3_count_90 1 rfl rfl ?_
          refine r_geti (pc := 91) X dX3_count_91 fl_X3_127 oc_13 rfl (fun x9 => ?_)
          exact r_iret (pc := 94) X Z dX3_count_94 rfl
        · refine r_ite (fun h3 => ?_) (fun h3 => ?_)
          · refine r_tabIn (pc := 24) (tgt := 95) (off := 71) X dX3_count_24 h3 (by decide) (by decide) (by decide) (by decide) ?_
            refine r_aload_n (pc := 95) X dX3_count_95 1 rfl rfl ?_
            refine r_geti (pc := 96) X dX3_count_96 fl_X3_151 oc_13 rfl (fun x8 => ?_)
            exact r_iret (pc := 99) X Z dX3_count_99 rfl
          · refine r_ite (fun h4 => ?_) (fun h4 => ?_)
            · refine r_tabIn (pc := 24) (tgt := 100) (off := 76) X dX3_count_24 h4 (by decide) (by decide) (by decide) (by decide) ?_
              refine r_iconst (pc := 100) X dX3_count_100 kc_0 ?_
              refine r_istore_n (pc := 101) (lv' := [(3, .int _), (2, .int _), (0, .ref _), (1, .int _)]) X dX3_count_101 rfl (by decide) rfl ?_
              refine r_sub [2, 1, 0] rfl ?_
              exact s_X3_count_L102 X Z hy FU 0 0
            · refine r_ite (fun h5 => ?_) (fun h5 => ?_)
              · refine r_tabIn (pc := 24) (tgt := 137) (off := 113) X dX3_count_24 h5 (by decide) (by decide) (by decide) (by decide) ?_
                refine r_aload_n (pc := 137) X dX3_count_137 1 rfl rfl ?_
                refine r_callvp (pc := 138) X dX3_count_138 cf_X3_allBreath ml_X3_350 (rf rfl rfl) hy oc_13.1 hc_3 (fun b hb => m_X3_allBreath hb) rfl rfl (Nat.le_of_ble_eq_true rfl) (fun x6 => ?_)
                exact r_iret (pc := 141) X Z dX3_count_141 rfl
              · refine r_ite (fun h6 => ?_) (fun h6 => ?_)
                · refine r_tabIn (pc := 24) (tgt := 142) (off := 118) X dX3_count_24 h6 (by decide) (by decide) (by decide) (by decide) ?_
                  refine r_iconst (pc := 142) X dX3_count_142 kc_0 ?_
                  refine r_istore_n (pc := 143) (lv' := [(3, .int _), (2, .int _), (0, .ref _), (1, .int _)]) X dX3_count_143 rfl (by decide) rfl ?_
                  refine r_sub [2, 1, 0] rfl ?_
                  exact s_X3_count_L144 X Z hy FU 0 0
                · refine r_ite (fun h7 => ?_) (fun h7 => ?_)
                  · refine r_tabIn (pc := 24) (tgt := 176) (off := 152) X dX3_count_24 h7 (by decide) (by decide) (by decide) (by decide) ?_
                    refine r_aload_n (pc := 176) X dX3_count_176 1 rfl rfl ?_
                    refine r_geti (pc := 177) X dX3_count_177 fl_X3_99 oc_13 rfl (fun x5 => ?_)
                    exact r_iret (pc := 180) X Z dX3_count_180 rfl
                  · refine r_ite (fun h8 => ?_) (fun h8 => ?_)
                    · refine r_tabIn (pc := 24) (tgt := 181) (off := 157) X dX3_count_24 h8 (by decide) (by decide) (by decide) (by decide) ?_
                      refine r_aload_n (pc := 181) X dX3_count_181 1 rfl rfl ?_
                      refine r_geti (pc := 182) X dX3_count_182 fl_X3_314 oc_13 rfl (fun x4 => ?_)
                      exact r_iret (pc := 185) X Z dX3_count_185 rfl
                    · refine r_ite (fun h9 => ?_) (fun h9 => ?_)
                      · refine r_tabIn (pc := 24) (tgt := 186) (off := 162) X dX3_count_24 h9 (by decide) (by decide) (by decide) (by decide) ?_
                        refine r_aload_n (pc := 186) X dX3_count_186 1 rfl rfl ?_
                        refine r_geti (pc := 187) X dX3_count_187 fl_X3_168 oc_13 rfl (fun x3 => ?_)
                        exact r_iret (pc := 190) X Z dX3_count_190 rfl
                      · refine r_tabOut (pc := 24) (tgt := 191) X dX3_count_24 (tab_out [(0 : Int32), (1 : Int32), (2 : Int32), (3 : Int32), (4 : Int32), (5 : Int32), (6 : Int32), (7 : Int32), (8 : Int32), (9 : Int32)] (List.forall_mem_cons.mpr ⟨h0, List.forall_mem_cons.mpr ⟨h1, List.forall_mem_cons.mpr ⟨h2, List.forall_mem_cons.mpr ⟨h3, List.forall_mem_cons.mpr ⟨h4, List.forall_mem_cons.mpr ⟨h5, List.forall_mem_cons.mpr ⟨h6, List.forall_mem_cons.mpr ⟨h7, List.forall_mem_cons.mpr ⟨h8, List.forall_mem_cons.mpr ⟨h9, List.forall_mem_nil _⟩⟩⟩⟩⟩⟩⟩⟩⟩⟩) (by decide)) (by decide) ?_
                        refine r_bipush (pc := 191) X dX3_count_191 kb_m9 ?_
                        exact r_iret (pc := 193) X Z dX3_count_193 rfl
  · refine r_aload_n (pc := 11) X dX3_count_11 0 rfl rfl ?_
    refine r_geta (pc := 12) X dX3_count_12 fl_X3_7 oc_13 (by decide) ?_
    refine r_iload_n (pc := 15) X dX3_count_15 1 rfl rfl ?_
    refine r_bipush (pc := 16) X dX3_count_16 kb_10 ?_
    refine r_isub (pc := 18) X dX3_count_18 ?_
    refine r_iald (pc := 19) X dX3_count_19 ar_13_0 (fun x12 => ?_)
    exact r_iret (pc := 20) X Z dX3_count_20 rfl

