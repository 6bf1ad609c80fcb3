/-! the bytecode does that: by program -/
set_option maxRecDepth 100000 in
theorem m_X2_refuse {y : LY} {l : Launch}  {a0 : Int32} {σ : ST} {a : (Int32 × ST)} (h : T_X2_refuse a0 σ = some a) : MU y l yX2_refuse cX2_refuse 2 (some .int) (rmd 0) [.ref (ad y 0), .int a0] σ (xI a) := by
  refine MU.of (φ := xI) h (by decide +kernel) rfl (fun E X Z hy => ?_)
  have X : CX y l E cX2_refuse 2 RX2 (rmd 0) := X
  show WW y l E 2 _ 0 [(0, .ref (ad y 0)), (1, .int a0)] [] σ (T_X2_refuse a0 σ)
  unfold T_X2_refuse
  refine r_iload_n (pc := 0) X dX2_refuse_0 1 rfl rfl ?_
  refine r_ineg (pc := 1) X dX2_refuse_1 ?_
  refine r_if_le (pc := 2) (tgt := 23) X dX2_refuse_2 (by decide) ?_ ?_
  · refine r_iload_n (pc := 23) X dX2_refuse_23 1 rfl rfl ?_
    exact r_iret (pc := 24) X Z dX2_refuse_24 rfl
  · refine r_iload_n (pc := 5) X dX2_refuse_5 1 rfl rfl ?_
    refine r_ineg (pc := 6) X dX2_refuse_6 ?_
    refine r_bipush (pc := 7) X dX2_refuse_7 kb_7 ?_
    refine r_icmp_ge (pc := 9) (tgt := 23) X dX2_refuse_9 (by decide) ?_ ?_
    · refine r_iload_n (pc := 23) X dX2_refuse_23 1 rfl rfl ?_
      exact r_iret (pc := 24) X Z dX2_refuse_24 rfl
    · refine r_aload_n (pc := 12) X dX2_refuse_12 0 rfl rfl ?_
      refine r_geta (pc := 13) X dX2_refuse_13 fl_X2_47 oc_0 (by decide) ?_
      refine r_iload_n (pc := 16) X dX2_refuse_16 1 rfl rfl ?_
      refine r_ineg (pc := 17) X dX2_refuse_17 ?_
      refine r_vl (fun x1 => ?_)
      refine r_dup2 (pc := 18) X dX2_refuse_18 rfl rfl ?_
      refine r_iald (pc := 19) X dX2_refuse_19 ar_0_10 (fun x2 => ?_)
      refine r_iconst (pc := 20) X dX2_refuse_20 kc_1 ?_
      refine r_iadd (pc := 21) X dX2_refuse_21 ?_
      refine r_iast (pc := 22) X dX2_refuse_22 ar_0_10 (fun σ3 => ?_)
      refine r_iload_n (pc := 23) X dX2_refuse_23 1 rfl rfl ?_
      exact r_iret (pc := 24) X Z dX2_refuse_24 rfl

set_option maxRecDepth 100000 in
theorem s_X2_feed_j27 {y : LY} {l : Launch} {E : ET} (X : CX y l E cX2_feed 2 RX2 (rmd 1)) (Z : ZX E (some .int)) (hy : y.1 ≤ (eS E).heap.size)     (σ : ST) : WW y l E 2 (fun a => QM y E (xI a)) 27 [(0, .ref (ad y 0))] [] σ (T_X2_feed_j27   σ) := by
  unfold T_X2_feed_j27
  refine r_aload_n (pc := 27) X dX2_feed_27 0 rfl rfl ?_
  refine r_bipush (pc := 28) X dX2_feed_28 kb_m6 ?_
  refine r_callvI (pc := 30) X dX2_feed_30 cf_X2_refuse ml_X2_60 (rf rfl rfl) hy oc_0.1 hc_2 (fun b hb => m_X2_refuse hb) rfl rfl (Nat.le_of_ble_eq_true rfl) (fun x1 σ2 => ?_)
  exact r_iret (pc := 33) X Z dX2_feed_33 rfl

set_option maxRecDepth 100000 in
theorem m_X2_feed {y : LY} {l : Launch}  {a0 : Int32} {σ : ST} {a : (Int32 × ST)} (h : T_X2_feed a0 σ = some a) : MU y l yX2_feed cX2_feed 2 (some .int) (rmd 1) [.ref (ad y 0), .int a0] σ (xI a) := by
  refine MU.of (φ := xI) h (by decide +kernel) rfl (fun E X Z hy => ?_)
  have X : CX y l E cX2_feed 2 RX2 (rmd 1) := X
  show WW y l E 2 _ 0 [(0, .ref (ad y 0)), (1, .int a0)] [] σ (T_X2_feed a0 σ)
  unfold T_X2_feed
  refine r_iload_n (pc := 0) X dX2_feed_0 1 rfl rfl ?_
  refine r_if_ge (pc := 1) (tgt := 11) X dX2_feed_1 (by decide) ?_ ?_
  · refine r_iload_n (pc := 11) X dX2_feed_11 1 rfl rfl ?_
    refine r_sipush (pc := 12) X dX2_feed_12 ks_255 ?_
    refine r_icmp_gt (pc := 15) (tgt := 27) X dX2_feed_15 (by decide) ?_ ?_
    · refine r_sub [0] rfl ?_
      exact s_X2_feed_j27 X Z hy σ
    · refine r_aload_n (pc := 18) X dX2_feed_18 0 rfl rfl ?_
      refine r_geti (pc := 19) X dX2_feed_19 fl_X2_38 oc_0 rfl (fun x1 => ?_)
      refine r_bipush (pc := 22) X dX2_feed_22 kb_96 ?_
      refine r_icmp_lt (pc := 24) (tgt := 34) X dX2_feed_24 (by decide) ?_ ?_
      · refine r_aload_n (pc := 34) X dX2_feed_34 0 rfl rfl ?_
        refine r_geta (pc := 35) X dX2_feed_35 fl_X2_34 oc_0 (by decide) ?_
        refine r_aload_n (pc := 38) X dX2_feed_38 0 rfl rfl ?_
        refine r_geti (pc := 39) X dX2_feed_39 fl_X2_38 oc_0 rfl (fun x2 => ?_)
        refine r_iload_n (pc := 42) X dX2_feed_42 1 rfl rfl ?_
        refine r_iast (pc := 43) X dX2_feed_43 ar_0_6 (fun σ3 => ?_)
        refine r_aload_n (pc := 44) X dX2_feed_44 0 rfl rfl ?_
        refine r_dup (pc := 45) X dX2_feed_45 rfl ?_
        refine r_geti (pc := 46) X dX2_feed_46 fl_X2_38 oc_0 rfl (fun x4 => ?_)
        refine r_iconst (pc := 49) X dX2_feed_49 kc_1 ?_
        refine r_iadd (pc := 50) X dX2_feed_50 ?_
        refine r_puti (pc := 51) X dX2_feed_51 fl_X2_38 fw_2_7 oc_0 rfl (fun σ5 => ?_)
        refine r_aload_n (pc := 54) X dX2_feed_54 0 rfl rfl ?_
        refine r_geti (pc := 55) X dX2_feed_55 fl_X2_38 oc_0 rfl (fun x6 => ?_)
        exact r_iret (pc := 58) X Z dX2_feed_58 rfl
      · refine r_sub [0] rfl ?_
        exact s_X2_feed_j27 X Z hy σ
  · refine r_aload_n (pc := 4) X dX2_feed_4 0 rfl rfl ?_
    refine r_bipush (pc := 5) X dX2_feed_5 kb_m4 ?_
    refine r_callvI (pc := 7) X dX2_feed_7 cf_X2_refuse ml_X2_60 (rf rfl rfl) hy oc_0.1 hc_2 (fun b hb => m_X2_refuse hb) rfl rfl (Nat.le_of_ble_eq_true rfl) (fun x7 σ8 => ?_)
    exact r_iret (pc := 10) X Z dX2_feed_10 rfl

set_option maxRecDepth 100000 in
theorem m_X2_digitsBehind {y : LY} {l : Launch}  {a0 : Int32} {σ : ST} {a : Int32} (h : T_X2_digitsBehind σ a0 = some a) : MU y l yX2_digitsBehind cX2_digitsBehind 1 (some .int) (rmd 0) [.int a0] σ (xp σ a) := by
  refine MU.of (φ := xp σ) h (by decide +kernel) rfl (fun E X Z hy => ?_)
  have X : CX y l E cX2_digitsBehind 1 RX2 (rmd 0) := X
  show WW y l E 1 _ 0 [(0, .int a0)] [] σ (T_X2_digitsBehind σ a0)
  unfold T_X2_digitsBehind
  refine r_iload_n (pc := 0) X dX2_digitsBehind_0 0 rfl rfl ?_
  refine r_ite (fun h0 => ?_) (fun h0 => ?_)
  · refine r_tabIn (pc := 1) (tgt := 60) (off := 59) X dX2_digitsBehind_1 h0 (by decide) (by decide) (by decide) (by decide) ?_
    refine r_iconst (pc := 60) X dX2_digitsBehind_60 kc_3 ?_
    exact r_iret (pc := 61) X Z dX2_digitsBehind_61 rfl
  · refine r_ite (fun h1 => ?_) (fun h1 => ?_)
    · refine r_tabIn (pc := 1) (tgt := 64) (off := 63) X dX2_digitsBehind_1 h1 (by decide) (by decide) (by decide) (by decide) ?_
      refine r_iconst (pc := 64) X dX2_digitsBehind_64 kc_1 ?_
      exact r_iret (pc := 65) X Z dX2_digitsBehind_65 rfl
    · refine r_ite (fun h2 => ?_) (fun h2 => ?_)
      · refine r_tabIn (pc := 1) (tgt := 66) (off := 65) X dX2_digitsBehind_1 h2 (by decide) (by decide) (by decide) (by decide) ?_
        refine r_bipush (pc := 66) X dX2_digitsBehind_66 kb_m9 ?_
        exact r_iret (pc := 68) X Z dX2_digitsBehind_68 rfl
      · refine r_ite (fun h3 => ?_) (fun h3 => ?_)
        · refine r_tabIn (pc := 1) (tgt := 66) (off := 65) X dX2_digitsBehind_1 h3 (by decide) (by decide) (by decide) (by decide) ?_
          refine r_bipush (pc := 66) X dX2_digitsBehind_66 kb_m9 ?_
          exact r_iret (pc := 68) X Z dX2_digitsBehind_68 rfl
        · refine r_ite (fun h4 => ?_) (fun h4 => ?_)
          · refine r_tabIn (pc := 1) (tgt := 62) (off := 61) X dX2_digitsBehind_1 h4 (by decide) (by decide) (by decide) (by decide) ?_
            refine r_iconst (pc := 62) X dX2_digitsBehind_62 kc_2 ?_
            exact r_iret (pc := 63) X Z dX2_digitsBehind_63 rfl
          · refine r_ite (fun h5 => ?_) (fun h5 => ?_)
            · refine r_tabIn (pc := 1) (tgt := 62) (off := 61) X dX2_digitsBehind_1 h5 (by decide) (by decide) (by decide) (by decide) ?_
              refine r_iconst (pc := 62) X dX2_digitsBehind_62 kc_2 ?_
              exact r_iret (pc := 63) X Z dX2_digitsBehind_63 rfl
            · refine r_ite (fun h6 => ?_) (fun h6 => ?_)
              · refine r_tabIn (pc := 1) (tgt := 62) (off := 61) X dX2_digitsBehind_1 h6 (by decide) (by decide) (by decide) (by decide) ?_
                refine r_iconst (pc := 62) X dX2_digitsBehind_62 kc_2 ?_
                exact r_iret (pc := 63) X Z dX2_digitsBehind_63 rfl
              · refine r_ite (fun h7 => ?_) (fun h7 => ?_)
                · refine r_tabIn (pc := 1) (tgt := 66) (off := 65) X dX2_digitsBehind_1 h7 (by decide) (by decide) (by decide) (by decide) ?_
                  refine r_bipush (pc := 66) X dX2_digitsBehind_66 kb_m9 ?_
                  exact r_iret (pc := 68) X Z dX2_digitsBehind_68 rfl
                · refine r_ite (fun h8 => ?_) (fun h8 => ?_)
                  · refine r_tabIn (pc := 1) (tgt := 66) (off := 65) X dX2_digitsBehind_1 h8 (by decide) (by decide) (by decide) (by decide) ?_
                    refine r_bipush (pc := 66) X dX2_digitsBehind_66 kb_m9 ?_
                    exact r_iret (pc := 68) X Z dX2_digitsBehind_68 rfl
                  · refine r_ite (fun h9 => ?_) (fun h9 => ?_)
                    · refine r_tabIn (pc := 1) (tgt := 66) (off := 65) X dX2_digitsBehind_1 h9 (by decide) (by decide) (by decide) (by decide) ?_
                      refine r_bipush (pc := 66) X dX2_digitsBehind_66 kb_m9 ?_
                      exact r_iret (pc := 68) X Z dX2_digitsBehind_68 rfl
                    · refine r_ite (fun h10 => ?_) (fun h10 => ?_)
                      · refine r_tabIn (pc := 1) (tgt := 60) (off := 59) X dX2_digitsBehind_1 h10 (by decide) (by decide) (by decide) (by decide) ?_
                        refine r_iconst (pc := 60) X dX2_digitsBehind_60 kc_3 ?_
                        exact r_iret (pc := 61) X Z dX2_digitsBehind_61 rfl
                      · refine r_tabOut (pc := 1) (tgt := 66) X dX2_digitsBehind_1 (tab_out [(98 : Int32), (99 : Int32), (100 : Int32), (101 : Int32), (102 : Int32), (103 : Int32), (104 : Int32), (105 : Int32), (106 : Int32), (107 : Int32), (108 : Int32)] (List.forall_mem_cons.mpr ⟨h0, List.forall_mem_cons.mpr ⟨h1, List.forall_mem_cons.mpr ⟨h2, List.forall_mem_cons.mpr ⟨h3, List.forall_mem_cons.mpr ⟨h4, List.forall_mem_cons.mpr ⟨h5, List.forall_mem_cons.mpr ⟨h6, List.forall_mem_cons.mpr ⟨h7, List.forall_mem_cons.mpr ⟨h8, List.forall_mem_cons.mpr ⟨h9, List.forall_mem_cons.mpr ⟨h10, List.forall_mem_nil _⟩⟩⟩⟩⟩⟩⟩⟩⟩⟩⟩) (by decide)) (by decide) ?_
                        refine r_bipush (pc := 66) X dX2_digitsBehind_66 kb_m9 ?_
                        exact r_iret (pc := 68) X Z dX2_digitsBehind_68 rfl

set_option maxRecDepth 100000 in
theorem s_X2_formFault_j35 {y : LY} {l : Launch} {E : ET} (X : CX y l E cX2_formFault 5 RX2 (rmd 1)) (Z : ZX E (some .int)) (hy : y.1 ≤ (eS E).heap.size)  {σ : ST} {K5 : Int32 → Int32 → Int32 → Option Int32} (hK5 : ∀ (v1 : Int32) (v2 : Int32) (v3 : Int32), WW y l E 5 (fun a => QM y E (xp σ a)) 5 [(0, .ref (ad y 0)), (1, .int v1), (2, .int v2), (3, .int v3)] [] σ (K5 v1 v2 v3)) (v1 : Int32) (v3 : Int32) (v4 : Int32) : WW y l E 5 (fun a => QM y E (xp σ a)) 35 [(0, .ref (ad y 0)), (1, .int v1), (3, .int v3), (4, .int v4)] [] σ (T_X2_formFault_j35 σ K5  v1 v3 v4) := by
  unfold T_X2_formFault_j35
  refine r_iload (pc := 35) X dX2_formFault_35 3 rfl ?_
  refine r_callsp (pc := 37) X dX2_formFault_37 cf_X2_digitsBehind ml_X2_81 (rf rfl rfl) hy (fun b hb => m_X2_digitsBehind hb) rfl rfl (Nat.le_of_ble_eq_true rfl) (fun x1 => ?_)
  refine r_istore_n (pc := 40) (lv' := [(2, .int _), (0, .ref _), (1, .int _), (3, .int _), (4, .int _)]) X dX2_formFault_40 rfl (by decide) rfl ?_
  refine r_iload_n (pc := 41) X dX2_formFault_41 0 rfl rfl ?_
  refine r_if_ge (pc := 42) (tgt := 82) X dX2_formFault_42 (by decide) ?_ ?_
  · refine r_iinc (pc := 82) (lv' := [(2, .int _), (0, .ref _), (1, .int _), (4, .int _)]) X dX2_formFault_82 3 rfl (congrArg (fun z => v3 + z) kc_1) (by decide) rfl (fun x3 => ?_)
    refine r_goto (pc := 85) (tgt := 5) X dX2_formFault_85 (by decide) ?_
    refine r_sub [2, 3, 1, 0] rfl ?_
    exact hK5 v1 x1 x3
  · refine r_iload_n (pc := 45) X dX2_formFault_45 3 rfl rfl ?_
    exact r_iret (pc := 46) X Z dX2_formFault_46 rfl

set_option maxRecDepth 100000 in
theorem s_X2_formFault_L5 {y : LY} {l : Launch} {E : ET} (X : CX y l E cX2_formFault 5 RX2 (rmd 1)) (Z : ZX E (some .int)) (hy : y.1 ≤ (eS E).heap.size)  {σ : ST}   (n : Nat) : ∀ (v1 : Int32) (v2 : Int32) (v3 : Int32), WW y l E 5 (fun a => QM y E (xp σ a)) 5 [(0, .ref (ad y 0)), (1, .int v1), (2, .int v2), (3, .int v3)] [] σ (T_X2_formFault_L5 σ n v1 v2 v3) := by
  induction n with
  | zero => intros; exact r_none rfl
  | succ n ih =>
    intro v1 v2 v3
    unfold T_X2_formFault_L5
    refine r_iload_n (pc := 5) X dX2_formFault_5 3 rfl rfl ?_
    refine r_iload_n (pc := 6) X dX2_formFault_6 1 rfl rfl ?_
    refine r_icmp_ge (pc := 7) (tgt := 88) X dX2_formFault_7 (by decide) ?_ ?_
    · refine r_iload_n (pc := 88) X dX2_formFault_88 1 rfl rfl ?_
      refine r_if_le (pc := 89) (tgt := 110) X dX2_formFault_89 (by decide) ?_ ?_
      · refine r_iload_n (pc := 110) X dX2_formFault_110 1 rfl rfl ?_
        exact r_iret (pc := 111) X Z dX2_formFault_111 rfl
      · refine r_aload_n (pc := 92) X dX2_formFault_92 0 rfl rfl ?_
        refine r_geta (pc := 93) X dX2_formFault_93 fl_X2_34 oc_0 (by decide) ?_
        refine r_iload_n (pc := 96) X dX2_formFault_96 1 rfl rfl ?_
        refine r_iconst (pc := 97) X dX2_formFault_97 kc_1 ?_
        refine r_isub (pc := 98) X dX2_formFault_98 ?_
        refine r_iald (pc := 99) X dX2_formFault_99 ar_0_6 (fun x1 => ?_)
        refine r_bipush (pc := 100) X dX2_formFault_100 kb_59 ?_
        refine r_icmp_ne (pc := 102) (tgt := 110) X dX2_formFault_102 (by decide) ?_ ?_
        · refine r_iload_n (pc := 110) X dX2_formFault_110 1 rfl rfl ?_
          exact r_iret (pc := 111) X Z dX2_formFault_111 rfl
        · refine r_bipush (pc := 105) X dX2_formFault_105 kb_m9 ?_
          refine r_goto (pc := 107) (tgt := 111) X dX2_formFault_107 (by decide) ?_
          exact r_iret (pc := 111) X Z dX2_formFault_111 rfl
    · refine r_aload_n (pc := 10) X dX2_formFault_10 0 rfl rfl ?_
      refine r_geta (pc := 11) X dX2_formFault_11 fl_X2_34 oc_0 (by decide) ?_
      refine r_iload_n (pc := 14) X dX2_formFault_14 3 rfl rfl ?_
      refine r_iald (pc := 15) X dX2_formFault_15 ar_0_6 (fun x2 => ?_)
      refine r_istore (pc := 16) (lv' := [(4, .int _), (0, .ref _), (1, .int _), (2, .int _), (3, .int _)]) X dX2_formFault_16 (by decide) rfl ?_
      refine r_iload_n (pc := 18) X dX2_formFault_18 4 rfl rfl ?_
      refine r_if_eq (pc := 19) (tgt := 35) X dX2_formFault_19 (by decide) ?_ ?_
      · refine r_sub [1, 2, 4, 0] rfl ?_
        exact s_X2_formFault_j35 X Z hy (fun v1 v2 v3 => ih v1 v2 v3) v1 v3 x2
      · refine r_aload_n (pc := 22) X dX2_formFault_22 1 rfl rfl ?_
        refine r_geta (pc := 23) X dX2_formFault_23 fl_X2_34 oc_0 (by decide) ?_
        refine r_iload_n (pc := 26) X dX2_formFault_26 4 rfl rfl ?_
        refine r_iconst (pc := 27) X dX2_formFault_27 kc_1 ?_
        refine r_isub (pc := 28) X dX2_formFault_28 ?_
        refine r_iald (pc := 29) X dX2_formFault_29 ar_0_6 (fun x3 => ?_)
        refine r_bipush (pc := 30) X dX2_formFault_30 kb_59 ?_
        refine r_icmp_ne (pc := 32) (tgt := 47) X dX2_formFault_32 (by decide) ?_ ?_
        · refine r_iload_n (pc := 47) X dX2_formFault_47 3 rfl rfl ?_
          refine r_if_le (pc := 48) (tgt := 73) X dX2_formFault_48 (by decide) ?_ ?_
          · refine r_iload (pc := 73) X dX2_formFault_73 0 rfl ?_
            refine r_bipush (pc := 75) X dX2_formFault_75 kb_59 ?_
            refine r_icmp_eq (pc := 77) (tgt := 82) X dX2_formFault_77 (by decide) ?_ ?_
            · refine r_iinc (pc := 82) (lv' := [(4, .int _), (0, .ref _), (1, .int _), (2, .int _)]) X dX2_formFault_82 4 rfl (congrArg (fun z => v3 + z) kc_1) (by decide) rfl (fun x4 => ?_)
              refine r_goto (pc := 85) (tgt := 5) X dX2_formFault_85 (by decide) ?_
              refine r_sub [2, 3, 4, 0] rfl ?_
              exact ih v1 v2 x4
            · refine r_iload_n (pc := 80) X dX2_formFault_80 4 rfl rfl ?_
              exact r_iret (pc := 81) X Z dX2_formFault_81 rfl
          · refine r_iload (pc := 51) X dX2_formFault_51 0 rfl ?_
            refine r_bipush (pc := 53) X dX2_formFault_53 kb_48 ?_
            refine r_icmp_lt (pc := 55) (tgt := 65) X dX2_formFault_55 (by decide) ?_ ?_
            · refine r_iload_n (pc := 65) X dX2_formFault_65 4 rfl rfl ?_
              exact r_iret (pc := 66) X Z dX2_formFault_66 rfl
            · refine r_iload (pc := 58) X dX2_formFault_58 0 rfl ?_
              refine r_bipush (pc := 60) X dX2_formFault_60 kb_57 ?_
              refine r_icmp_le (pc := 62) (tgt := 67) X dX2_formFault_62 (by decide) ?_ ?_
              · refine r_iinc (pc := 67) (lv' := [(4, .int _), (0, .ref _), (1, .int _), (3, .int _)]) X dX2_formFault_67 3 rfl (congrArg (fun z => v2 + z) kc_m1) (by decide) rfl (fun x5 => ?_)
                refine r_goto (pc := 70) (tgt := 82) X dX2_formFault_70 (by decide) ?_
                refine r_iinc (pc := 82) (lv' := [(2, .int _), (4, .int _), (0, .ref _), (1, .int _)]) X dX2_formFault_82 4 rfl (congrArg (fun z => v3 + z) kc_1) (by decide) rfl (fun x6 => ?_)
                refine r_goto (pc := 85) (tgt := 5) X dX2_formFault_85 (by decide) ?_
                refine r_sub [3, 4, 1, 0] rfl ?_
                exact ih v1 x5 x6
              · refine r_iload_n (pc := 65) X dX2_formFault_65 4 rfl rfl ?_
                exact r_iret (pc := 66) X Z dX2_formFault_66 rfl
        · refine r_sub [1, 2, 4, 0] rfl ?_
          exact s_X2_formFault_j35 X Z hy (fun v1 v2 v3 => ih v1 v2 v3) v1 v3 x2

set_option maxRecDepth 100000 in
theorem m_X2_formFault {y : LY} {l : Launch}  {a0 : Int32} {σ : ST} {a : Int32} (h : T_X2_formFault σ a0 = some a) : MU y l yX2_formFault cX2_formFault 5 (some .int) (rmd 1) [.ref (ad y 0), .int a0] σ (xp σ a) := by
  refine MU.of (φ := xp σ) h (by decide +kernel) rfl (fun E X Z hy => ?_)
  have X : CX y l E cX2_formFault 5 RX2 (rmd 1) := X
  show WW y l E 5 _ 0 [(0, .ref (ad y 0)), (1, .int a0)] [] σ (T_X2_formFault σ a0)
  unfold T_X2_formFault
  refine r_bipush (pc := 0) X dX2_formFault_0 kb_m9 ?_
  refine r_istore_n (pc := 2) (lv' := [(2, .int _), (0, .ref _), (1, .int _)]) X dX2_formFault_2 rfl (by decide) rfl ?_
  refine r_iconst (pc := 3) X dX2_formFault_3 kc_0 ?_
  refine r_istore_n (pc := 4) (lv' := [(3, .int _), (2, .int _), (0, .ref _), (1, .int _)]) X dX2_formFault_4 rfl (by decide) rfl ?_
  refine r_sub [2, 3, 1, 0] rfl ?_
  exact s_X2_formFault_L5 X Z hy FU a0 ((-9)) 0

set_option maxRecDepth 100000 in
theorem m_X2_think {y : LY} {l : Launch}   {σ : ST} {a : ST} (h : T_X2_think σ = some a) : MU y l yX2_think cX2_think 1 none (rmd 2) [.ref (ad y 0)] σ (xV a) := by
  refine MU.of (φ := xV) h (by decide +kernel) rfl (fun E X Z hy => ?_)
  have X : CX y l E cX2_think 1 RX2 (rmd 2) := X
  show WW y l E 1 _ 0 [(0, .ref (ad y 0))] [] σ (T_X2_think σ)
  unfold T_X2_think
  refine r_aload_n (pc := 0) X dX2_think_0 0 rfl rfl ?_
  refine r_geto (pc := 1) 2 X dX2_think_1 fl_X2_16 rfl (by decide) ?_
  refine r_aload_n (pc := 4) X dX2_think_4 0 rfl rfl ?_
  refine r_geto (pc := 5) 1 X dX2_think_5 fl_X2_12 rfl (by decide) ?_
  refine r_callvV (pc := 8) X dX2_think_8 cf_X0_copyFrom ml_X2_74 (rf rfl rfl) hy oc_2.1 (hc_0 (by decide)) (fun b hb => m_X0_copyFrom (by decide) (by decide) hb) rfl rfl (Nat.le_of_ble_eq_true rfl) (fun σ2 => ?_)
  exact r_vret (pc := 11) X Z dX2_think_11 rfl

set_option maxRecDepth 100000 in
theorem m_X2_digitAt {y : LY} {l : Launch}  {a0 : Int32} {σ : ST} {a : Int32} (h : T_X2_digitAt σ a0 = some a) : MU y l yX2_digitAt cX2_digitAt 2 (some .int) (rmd 0) [.ref (ad y 0), .int a0] σ (xp σ a) := by
  refine MU.of (φ := xp σ) h (by decide +kernel) rfl (fun E X Z hy => ?_)
  have X : CX y l E cX2_digitAt 2 RX2 (rmd 0) := X
  show WW y l E 2 _ 0 [(0, .ref (ad y 0)), (1, .int a0)] [] σ (T_X2_digitAt σ a0)
  unfold T_X2_digitAt
  refine r_iload_n (pc := 0) X dX2_digitAt_0 1 rfl rfl ?_
  refine r_if_lt (pc := 1) (tgt := 22) X dX2_digitAt_1 (by decide) ?_ ?_
  · refine r_bipush (pc := 22) X dX2_digitAt_22 kb_m9 ?_
    exact r_iret (pc := 24) X Z dX2_digitAt_24 rfl
  · refine r_iload_n (pc := 4) X dX2_digitAt_4 1 rfl rfl ?_
    refine r_bipush (pc := 5) X dX2_digitAt_5 kb_96 ?_
    refine r_icmp_ge (pc := 7) (tgt := 22) X dX2_digitAt_7 (by decide) ?_ ?_
    · refine r_bipush (pc := 22) X dX2_digitAt_22 kb_m9 ?_
      exact r_iret (pc := 24) X Z dX2_digitAt_24 rfl
    · refine r_aload_n (pc := 10) X dX2_digitAt_10 0 rfl rfl ?_
      refine r_geta (pc := 11) X dX2_digitAt_11 fl_X2_34 oc_0 (by decide) ?_
      refine r_iload_n (pc := 14) X dX2_digitAt_14 1 rfl rfl ?_
      refine r_iald (pc := 15) X dX2_digitAt_15 ar_0_6 (fun x1 => ?_)
      refine r_bipush (pc := 16) X dX2_digitAt_16 kb_48 ?_
      refine r_isub (pc := 18) X dX2_digitAt_18 ?_
      refine r_goto (pc := 19) (tgt := 24) X dX2_digitAt_19 (by decide) ?_
      exact r_iret (pc := 24) X Z dX2_digitAt_24 rfl

set_option maxRecDepth 100000 in
theorem s_X2_carryOut_j164 {y : LY} {l : Launch} {E : ET} (X : CX y l E cX2_carryOut 6 RX2 (rmd 5)) (Z : ZX E (some .boolean)) (hy : y.1 ≤ (eS E).heap.size)     (v2 : Int32) (v3 : Int32) (σ : ST) : WW y l E 6 (fun a => QM y E (xI a)) 164 [(0, .ref (ad y 0)), (2, .int v2), (3, .int v3)] [] σ (T_X2_carryOut_j164   v2 v3 σ) := by
  unfold T_X2_carryOut_j164
  refine r_bipush (pc := 164) X dX2_carryOut_164 kb_10 ?_
  refine r_iload_n (pc := 166) X dX2_carryOut_166 1 rfl rfl ?_
  refine r_imul (pc := 167) X dX2_carryOut_167 ?_
  refine r_iload_n (pc := 168) X dX2_carryOut_168 2 rfl rfl ?_
  refine r_iadd (pc := 169) X dX2_carryOut_169 ?_
  refine r_vl (fun x1 => ?_)
  refine r_istore (pc := 170) (lv' := [(5, .int _), (0, .ref _), (2, .int _), (3, .int _)]) X dX2_carryOut_170 (by decide) rfl ?_
  refine r_iload (pc := 172) X dX2_carryOut_172 0 rfl ?_
  refine r_iconst (pc := 174) X dX2_carryOut_174 kc_1 ?_
  refine r_icmp_lt (pc := 175) (tgt := 201) X dX2_carryOut_175 (by decide) ?_ ?_
  · refine r_iconst (pc := 201) X dX2_carryOut_201 kc_0 ?_
    exact r_zret (pc := 202) X Z dX2_carryOut_202 rfl (Or.inl rfl)
  · refine r_iload (pc := 178) X dX2_carryOut_178 0 rfl ?_
    refine r_bipush (pc := 180) X dX2_carryOut_180 kb_60 ?_
    refine r_icmp_gt (pc := 182) (tgt := 201) X dX2_carryOut_182 (by decide) ?_ ?_
    · refine r_iconst (pc := 201) X dX2_carryOut_201 kc_0 ?_
      exact r_zret (pc := 202) X Z dX2_carryOut_202 rfl (Or.inl rfl)
    · refine r_aload_n (pc := 185) X dX2_carryOut_185 1 rfl rfl ?_
      refine r_geto (pc := 186) 2 X dX2_carryOut_186 fl_X2_16 rfl (by decide) ?_
      refine r_geti (pc := 189) X dX2_carryOut_189 fl_X2_104 oc_2 rfl (fun x2 => ?_)
      refine r_iload (pc := 192) X dX2_carryOut_192 0 rfl ?_
      refine r_iadd (pc := 194) X dX2_carryOut_194 ?_
      refine r_sipush (pc := 195) X dX2_carryOut_195 ks_999 ?_
      refine r_icmp_le (pc := 198) (tgt := 203) X dX2_carryOut_198 (by decide) ?_ ?_
      · refine r_aload_n (pc := 203) X dX2_carryOut_203 1 rfl rfl ?_
        refine r_geto (pc := 204) 2 X dX2_carryOut_204 fl_X2_16 rfl (by decide) ?_
        refine r_iload (pc := 207) X dX2_carryOut_207 0 rfl ?_
        refine r_callvV (pc := 209) X dX2_carryOut_209 cf_X0_goHours ml_X2_107 (rf rfl rfl) hy oc_2.1 (hc_0 (by decide)) (fun b hb => m_X0_goHours (by decide) hb) rfl rfl (Nat.le_of_ble_eq_true rfl) (fun σ4 => ?_)
        refine r_iconst (pc := 212) X dX2_carryOut_212 kc_1 ?_
        exact r_zret (pc := 213) X Z dX2_carryOut_213 rfl (Or.inr rfl)
      · refine r_iconst (pc := 201) X dX2_carryOut_201 kc_0 ?_
        exact r_zret (pc := 202) X Z dX2_carryOut_202 rfl (Or.inl rfl)

set_option maxRecDepth 100000 in
theorem m_X2_carryOut {y : LY} {l : Launch}  {a0 : Int32} {σ : ST} {a : (Int32 × ST)} (h : T_X2_carryOut a0 σ = some a) : MU y l yX2_carryOut cX2_carryOut 6 (some .boolean) (rmd 5) [.ref (ad y 0), .int a0] σ (xI a) := by
  refine MU.of (φ := xI) h (by decide +kernel) rfl (fun E X Z hy => ?_)
  have X : CX y l E cX2_carryOut 6 RX2 (rmd 5) := X
  show WW y l E 6 _ 0 [(0, .ref (ad y 0)), (1, .int a0)] [] σ (T_X2_carryOut a0 σ)
  unfold T_X2_carryOut
  refine r_aload_n (pc := 0) X dX2_carryOut_0 0 rfl rfl ?_
  refine r_iload_n (pc := 1) X dX2_carryOut_1 1 rfl rfl ?_
  refine r_iconst (pc := 2) X dX2_carryOut_2 kc_1 ?_
  refine r_iadd (pc := 3) X dX2_carryOut_3 ?_
  refine r_callvp (pc := 4) X dX2_carryOut_4 cf_X2_digitAt ml_X2_84 (rf rfl rfl) hy oc_0.1 hc_2 (fun b hb => m_X2_digitAt hb) rfl rfl (Nat.le_of_ble_eq_true rfl) (fun x1 => ?_)
  refine r_istore_n (pc := 7) (lv' := [(2, .int _), (0, .ref _), (1, .int _)]) X dX2_carryOut_7 rfl (by decide) rfl ?_
  refine r_aload_n (pc := 8) X dX2_carryOut_8 1 rfl rfl ?_
  refine r_iload_n (pc := 9) X dX2_carryOut_9 2 rfl rfl ?_
  refine r_iconst (pc := 10) X dX2_carryOut_10 kc_2 ?_
  refine r_iadd (pc := 11) X dX2_carryOut_11 ?_
  refine r_callvp (pc := 12) X dX2_carryOut_12 cf_X2_digitAt ml_X2_84 (rf rfl rfl) hy oc_0.1 hc_2 (fun b hb => m_X2_digitAt hb) rfl rfl (Nat.le_of_ble_eq_true rfl) (fun x3 => ?_)
  refine r_istore_n (pc := 15) (lv' := [(3, .int _), (2, .int _), (0, .ref _), (1, .int _)]) X dX2_carryOut_15 rfl (by decide) rfl ?_
  refine r_aload_n (pc := 16) X dX2_carryOut_16 2 rfl rfl ?_
  refine r_iload_n (pc := 17) X dX2_carryOut_17 3 rfl rfl ?_
  refine r_iconst (pc := 18) X dX2_carryOut_18 kc_3 ?_
  refine r_iadd (pc := 19) X dX2_carryOut_19 ?_
  refine r_callvp (pc := 20) X dX2_carryOut_20 cf_X2_digitAt ml_X2_84 (rf rfl rfl) hy oc_0.1 hc_2 (fun b hb => m_X2_digitAt hb) rfl rfl (Nat.le_of_ble_eq_true rfl) (fun x5 => ?_)
  refine r_istore (pc := 23) (lv' := [(4, .int _), (3, .int _), (2, .int _), (0, .ref _), (1, .int _)]) X dX2_carryOut_23 (by decide) rfl ?_
  refine r_aload_n (pc := 25) X dX2_carryOut_25 3 rfl rfl ?_
  refine r_geta (pc := 26) X dX2_carryOut_26 fl_X2_34 oc_0 (by decide) ?_
  refine r_iload_n (pc := 29) X dX2_carryOut_29 4 rfl rfl ?_
  refine r_iald (pc := 30) X dX2_carryOut_30 ar_0_6 (fun x7 => ?_)
  refine r_ite (fun h0 => ?_) (fun h0 => ?_)
  · refine r_tabIn (pc := 31) (tgt := 88) (off := 57) X dX2_carryOut_31 h0 (by decide) (by decide) (by decide) (by decide) ?_
    refine r_iload_n (pc := 88) X dX2_carryOut_88 2 rfl rfl ?_
    refine r_bipush (pc := 89) X dX2_carryOut_89 kb_6 ?_
    refine r_icmp_ge (pc := 91) (tgt := 112) X dX2_carryOut_91 (by decide) ?_ ?_
    · refine r_iconst (pc := 112) X dX2_carryOut_112 kc_0 ?_
      exact r_zret (pc := 113) X Z dX2_carryOut_113 rfl (Or.inl rfl)
    · refine r_aload_n (pc := 94) X dX2_carryOut_94 3 rfl rfl ?_
      refine r_geto (pc := 95) 2 X dX2_carryOut_95 fl_X2_16 rfl (by decide) ?_
      refine r_iload_n (pc := 98) X dX2_carryOut_98 2 rfl rfl ?_
      refine r_iload_n (pc := 99) X dX2_carryOut_99 1 rfl rfl ?_
      refine r_iload (pc := 100) X dX2_carryOut_100 0 rfl ?_
      refine r_callvI (pc := 102) X dX2_carryOut_102 cf_X0_addBag ml_X2_87 (rf rfl rfl) hy oc_2.1 (hc_0 (by decide)) (fun b hb => m_X0_addBag (by decide) hb) rfl rfl (Nat.le_of_ble_eq_true rfl) (fun x15 σ16 => ?_)
      refine r_if_lt (pc := 105) (tgt := 112) X dX2_carryOut_105 (by decide) ?_ ?_
      · refine r_iconst (pc := 112) X dX2_carryOut_112 kc_0 ?_
        exact r_zret (pc := 113) X Z dX2_carryOut_113 rfl (Or.inl rfl)
      · refine r_iconst (pc := 108) X dX2_carryOut_108 kc_1 ?_
        refine r_goto (pc := 109) (tgt := 113) X dX2_carryOut_109 (by decide) ?_
        exact r_zret (pc := 113) X Z dX2_carryOut_113 rfl (Or.inr rfl)
  · refine r_ite (fun h1 => ?_) (fun h1 => ?_)
    · refine r_tabIn (pc := 31) (tgt := 154) (off := 123) X dX2_carryOut_31 h1 (by decide) (by decide) (by decide) (by decide) ?_
      refine r_aload_n (pc := 154) X dX2_carryOut_154 3 rfl rfl ?_
      refine r_geto (pc := 155) 2 X dX2_carryOut_155 fl_X2_16 rfl (by decide) ?_
      refine r_iload_n (pc := 158) X dX2_carryOut_158 2 rfl rfl ?_
      refine r_puti (pc := 159) X dX2_carryOut_159 fl_X2_101 fw_0_13 oc_2 rfl (fun σ14 => ?_)
      refine r_iconst (pc := 162) X dX2_carryOut_162 kc_1 ?_
      exact r_zret (pc := 163) X Z dX2_carryOut_163 rfl (Or.inr rfl)
    · refine r_ite (fun h2 => ?_) (fun h2 => ?_)
      · refine r_tabIn (pc := 31) (tgt := 164) (off := 133) X dX2_carryOut_31 h2 (by decide) (by decide) (by decide) (by decide) ?_
        refine r_sub [3, 2, 1] rfl ?_
        exact s_X2_carryOut_j164 X Z hy x1 x3 σ
      · refine r_ite (fun h3 => ?_) (fun h3 => ?_)
        · refine r_tabIn (pc := 31) (tgt := 164) (off := 133) X dX2_carryOut_31 h3 (by decide) (by decide) (by decide) (by decide) ?_
          refine r_sub [3, 2, 1] rfl ?_
          exact s_X2_carryOut_j164 X Z hy x1 x3 σ
        · refine r_ite (fun h4 => ?_) (fun h4 => ?_)
          · refine r_tabIn (pc := 31) (tgt := 144) (off := 113) X dX2_carryOut_31 h4 (by decide) (by decide) (by decide) (by decide) ?_
            refine r_aload_n (pc := 144) X dX2_carryOut_144 3 rfl rfl ?_
            refine r_geto (pc := 145) 2 X dX2_carryOut_145 fl_X2_16 rfl (by decide) ?_
            refine r_iload_n (pc := 148) X dX2_carryOut_148 2 rfl rfl ?_
            refine r_iload_n (pc := 149) X dX2_carryOut_149 1 rfl rfl ?_
            refine r_callvI (pc := 150) X dX2_carryOut_150 cf_X0_befriend ml_X2_98 (rf rfl rfl) hy oc_2.1 (hc_0 (by decide)) (fun b hb => m_X0_befriend (by decide) hb) rfl rfl (Nat.le_of_ble_eq_true rfl) (fun x12 σ13 => ?_)
            exact r_zretz (pc := 153) X Z dX2_carryOut_153 rfl
          · refine r_ite (fun h5 => ?_) (fun h5 => ?_)
            · refine r_tabIn (pc := 31) (tgt := 134) (off := 103) X dX2_carryOut_31 h5 (by decide) (by decide) (by decide) (by decide) ?_
              refine r_aload_n (pc := 134) X dX2_carryOut_134 3 rfl rfl ?_
              refine r_geto (pc := 135) 2 X dX2_carryOut_135 fl_X2_16 rfl (by decide) ?_
              refine r_iload_n (pc := 138) X dX2_carryOut_138 2 rfl rfl ?_
              refine r_iload_n (pc := 139) X dX2_carryOut_139 1 rfl rfl ?_
              refine r_callvI (pc := 140) X dX2_carryOut_140 cf_X0_hand ml_X2_94 (rf rfl rfl) hy oc_2.1 (hc_0 (by decide)) (fun b hb => m_X0_hand (by decide) hb) rfl rfl (Nat.le_of_ble_eq_true rfl) (fun x10 σ11 => ?_)
              exact r_zretz (pc := 143) X Z dX2_carryOut_143 rfl
            · refine r_ite (fun h6 => ?_) (fun h6 => ?_)
              · refine r_tabIn (pc := 31) (tgt := 164) (off := 133) X dX2_carryOut_31 h6 (by decide) (by decide) (by decide) (by decide) ?_
                refine r_sub [3, 2, 1] rfl ?_
                exact s_X2_carryOut_j164 X Z hy x1 x3 σ
              · refine r_ite (fun h7 => ?_) (fun h7 => ?_)
                · refine r_tabIn (pc := 31) (tgt := 164) (off := 133) X dX2_carryOut_31 h7 (by decide) (by decide) (by decide) (by decide) ?_
                  refine r_sub [3, 2, 1] rfl ?_
                  exact s_X2_carryOut_j164 X Z hy x1 x3 σ
                · refine r_ite (fun h8 => ?_) (fun h8 => ?_)
                  · refine r_tabIn (pc := 31) (tgt := 164) (off := 133) X dX2_carryOut_31 h8 (by decide) (by decide) (by decide) (by decide) ?_
                    refine r_sub [3, 2, 1] rfl ?_
                    exact s_X2_carryOut_j164 X Z hy x1 x3 σ
                  · refine r_ite (fun h9 => ?_) (fun h9 => ?_)
                    · refine r_tabIn (pc := 31) (tgt := 164) (off := 133) X dX2_carryOut_31 h9 (by decide) (by decide) (by decide) (by decide) ?_
                      refine r_sub [3, 2, 1] rfl ?_
                      exact s_X2_carryOut_j164 X Z hy x1 x3 σ
                    · refine r_ite (fun h10 => ?_) (fun h10 => ?_)
                      · refine r_tabIn (pc := 31) (tgt := 114) (off := 83) X dX2_carryOut_31 h10 (by decide) (by decide) (by decide) (by decide) ?_
                        refine r_aload_n (pc := 114) X dX2_carryOut_114 3 rfl rfl ?_
                        refine r_geto (pc := 115) 2 X dX2_carryOut_115 fl_X2_16 rfl (by decide) ?_
                        refine r_iload_n (pc := 118) X dX2_carryOut_118 2 rfl rfl ?_
                        refine r_iload_n (pc := 119) X dX2_carryOut_119 1 rfl rfl ?_
                        refine r_iload (pc := 120) X dX2_carryOut_120 0 rfl ?_
                        refine r_callvI (pc := 122) X dX2_carryOut_122 cf_X0_addBearer ml_X2_91 (rf rfl rfl) hy oc_2.1 (hc_0 (by decide)) (fun b hb => m_X0_addBearer (by decide) hb) rfl rfl (Nat.le_of_ble_eq_true rfl) (fun x8 σ9 => ?_)
                        refine r_if_lt (pc := 125) (tgt := 132) X dX2_carryOut_125 (by decide) ?_ ?_
                        · refine r_iconst (pc := 132) X dX2_carryOut_132 kc_0 ?_
                          exact r_zret (pc := 133) X Z dX2_carryOut_133 rfl (Or.inl rfl)
                        · refine r_iconst (pc := 128) X dX2_carryOut_128 kc_1 ?_
                          refine r_goto (pc := 129) (tgt := 133) X dX2_carryOut_129 (by decide) ?_
                          exact r_zret (pc := 133) X Z dX2_carryOut_133 rfl (Or.inr rfl)
                      · refine r_tabOut (pc := 31) (tgt := 164) X dX2_carryOut_31 (tab_out [(98 : Int32), (99 : Int32), (100 : Int32), (101 : Int32), (102 : Int32), (103 : Int32), (104 : Int32), (105 : Int32), (106 : Int32), (107 : Int32), (108 : Int32)] (List.forall_mem_cons.mpr ⟨h0, List.forall_mem_cons.mpr ⟨h1, List.forall_mem_cons.mpr ⟨h2, List.forall_mem_cons.mpr ⟨h3, List.forall_mem_cons.mpr ⟨h4, List.forall_mem_cons.mpr ⟨h5, List.forall_mem_cons.mpr ⟨h6, List.forall_mem_cons.mpr ⟨h7, List.forall_mem_cons.mpr ⟨h8, List.forall_mem_cons.mpr ⟨h9, List.forall_mem_cons.mpr ⟨h10, List.forall_mem_nil _⟩⟩⟩⟩⟩⟩⟩⟩⟩⟩⟩) (by decide)) (by decide) ?_
                        refine r_sub [3, 2, 1] rfl ?_
                        exact s_X2_carryOut_j164 X Z hy x1 x3 σ

set_option maxRecDepth 100000 in
theorem m_X2_forgetPast {y : LY} {l : Launch}   {σ : ST} {a : ST} (h : T_X2_forgetPast σ = some a) : MU y l yX2_forgetPast cX2_forgetPast 1 none (rmd 0) [.ref (ad y 0)] σ (xV a) := by
  refine MU.of (φ := xV) h (by decide +kernel) rfl (fun E X Z hy => ?_)
  have X : CX y l E cX2_forgetPast 1 RX2 (rmd 0) := X
  show WW y l E 1 _ 0 [(0, .ref (ad y 0))] [] σ (T_X2_forgetPast σ)
  unfold T_X2_forgetPast
  refine r_aload_n (pc := 0) X dX2_forgetPast_0 0 rfl rfl ?_
  refine r_iconst (pc := 1) X dX2_forgetPast_1 kc_0 ?_
  refine r_puti (pc := 2) X dX2_forgetPast_2 fl_X2_30 fw_2_5 oc_0 rfl (fun σ1 => ?_)
  exact r_vret (pc := 5) X Z dX2_forgetPast_5 rfl

set_option maxRecDepth 100000 in
theorem s_X2_bequest_j60 {y : LY} {l : Launch} {E : ET} (X : CX y l E cX2_bequest 5 RX2 (rmd 6)) (Z : ZX E (some .int)) (hy : y.1 ≤ (eS E).heap.size)   {K35 : Int32 → Int32 → Int32 → ST → Option (Int32 × ST)} (hK35 : ∀ (v1 : Int32) (v3 : Int32) (v4 : Int32) (σ : ST), WW y l E 5 (fun a => QM y E (xI a)) 35 [(0, .ref (ad y 0)), (1, .int v1), (3, .int v3), (4, .int v4)] [] σ (K35 v1 v3 v4 σ)) (v1 : Int32) (v3 : Int32) (v4 : Int32) (σ : ST) : WW y l E 5 (fun a => QM y E (xI a)) 60 [(0, .ref (ad y 0)), (1, .int v1), (3, .int v3), (4, .int v4)] [] σ (T_X2_bequest_j60 K35  v1 v3 v4 σ) := by
  unfold T_X2_bequest_j60
  refine r_aload_n (pc := 60) X dX2_bequest_60 0 rfl rfl ?_
  refine r_iload (pc := 61) X dX2_bequest_61 3 rfl ?_
  refine r_callvI (pc := 63) X dX2_bequest_63 cf_X2_carryOut ml_X2_70 (rf rfl rfl) hy oc_0.1 hc_2 (fun b hb => m_X2_carryOut hb) rfl rfl (Nat.le_of_ble_eq_true rfl) (fun x1 σ2 => ?_)
  refine r_if_ne (pc := 66) (tgt := 76) X dX2_bequest_66 (by decide) ?_ ?_
  · refine r_iinc (pc := 76) (lv' := [(0, .ref _), (1, .int _), (4, .int _)]) X dX2_bequest_76 2 rfl (congrArg (fun z => v3 + z) kc_1) (by decide) rfl (fun x3 => ?_)
    refine r_iinc (pc := 79) (lv' := [(3, .int _), (0, .ref _), (1, .int _)]) X dX2_bequest_79 3 rfl (congrArg (fun z => v4 + z) kc_1) (by decide) rfl (fun x4 => ?_)
    refine r_goto (pc := 82) (tgt := 35) X dX2_bequest_82 (by decide) ?_
    refine r_sub [2, 3, 1, 0] rfl ?_
    exact hK35 v1 x3 x4 σ2
  · refine r_sipush (pc := 69) X dX2_bequest_69 ks_m2000 ?_
    refine r_iload (pc := 72) X dX2_bequest_72 3 rfl ?_
    refine r_isub (pc := 74) X dX2_bequest_74 ?_
    exact r_iret (pc := 75) X Z dX2_bequest_75 rfl

set_option maxRecDepth 100000 in
theorem s_X2_bequest_L35 {y : LY} {l : Launch} {E : ET} (X : CX y l E cX2_bequest 5 RX2 (rmd 6)) (Z : ZX E (some .int)) (hy : y.1 ≤ (eS E).heap.size)     (n : Nat) : ∀ (v1 : Int32) (v3 : Int32) (v4 : Int32) (σ : ST), WW y l E 5 (fun a => QM y E (xI a)) 35 [(0, .ref (ad y 0)), (1, .int v1), (3, .int v3), (4, .int v4)] [] σ (T_X2_bequest_L35  n v1 v3 v4 σ) := by
  induction n with
  | zero => intros; exact r_none rfl
  | succ n ih =>
    intro v1 v3 v4 σ
    unfold T_X2_bequest_L35
    refine r_iload (pc := 35) X dX2_bequest_35 3 rfl ?_
    refine r_iload_n (pc := 37) X dX2_bequest_37 1 rfl rfl ?_
    refine r_icmp_ge (pc := 38) (tgt := 85) X dX2_bequest_38 (by decide) ?_ ?_
    · refine r_aload_n (pc := 85) X dX2_bequest_85 0 rfl rfl ?_
      refine r_geto (pc := 86) 1 X dX2_bequest_86 fl_X2_12 rfl (by decide) ?_
      refine r_aload_n (pc := 89) X dX2_bequest_89 0 rfl rfl ?_
      refine r_geto (pc := 90) 2 X dX2_bequest_90 fl_X2_16 rfl (by decide) ?_
      refine r_callvV (pc := 93) X dX2_bequest_93 cf_X0_copyFrom ml_X2_74 (rf rfl rfl) hy oc_1.1 (hc_0 (by decide)) (fun b hb => m_X0_copyFrom (by decide) (by decide) hb) rfl rfl (Nat.le_of_ble_eq_true rfl) (fun σ2 => ?_)
      refine r_aload_n (pc := 96) X dX2_bequest_96 0 rfl rfl ?_
      refine r_callvV (pc := 97) X dX2_bequest_97 cf_X2_forgetPast ml_X2_78 (rf rfl rfl) hy oc_0.1 hc_2 (fun b hb => m_X2_forgetPast hb) rfl rfl (Nat.le_of_ble_eq_true rfl) (fun σ4 => ?_)
      refine r_iload_n (pc := 100) X dX2_bequest_100 2 rfl rfl ?_
      exact r_iret (pc := 101) X Z dX2_bequest_101 rfl
    · refine r_iload (pc := 41) X dX2_bequest_41 3 rfl ?_
      refine r_if_eq (pc := 43) (tgt := 60) X dX2_bequest_43 (by decide) ?_ ?_
      · exact s_X2_bequest_j60 X Z hy (fun v1 v3 v4 s => ih v1 v3 v4 s) v1 v3 v4 σ
      · refine r_aload_n (pc := 46) X dX2_bequest_46 0 rfl rfl ?_
        refine r_geta (pc := 47) X dX2_bequest_47 fl_X2_34 oc_0 (by decide) ?_
        refine r_iload (pc := 50) X dX2_bequest_50 3 rfl ?_
        refine r_iconst (pc := 52) X dX2_bequest_52 kc_1 ?_
        refine r_isub (pc := 53) X dX2_bequest_53 ?_
        refine r_iald (pc := 54) X dX2_bequest_54 ar_0_6 (fun x5 => ?_)
        refine r_bipush (pc := 55) X dX2_bequest_55 kb_59 ?_
        refine r_icmp_ne (pc := 57) (tgt := 79) X dX2_bequest_57 (by decide) ?_ ?_
        · refine r_iinc (pc := 79) (lv' := [(0, .ref _), (1, .int _), (3, .int _)]) X dX2_bequest_79 3 rfl (congrArg (fun z => v4 + z) kc_1) (by decide) rfl (fun x6 => ?_)
          refine r_goto (pc := 82) (tgt := 35) X dX2_bequest_82 (by decide) ?_
          refine r_sub [1, 2, 3, 0] rfl ?_
          exact ih v1 v3 x6 σ
        · exact s_X2_bequest_j60 X Z hy (fun v1 v3 v4 s => ih v1 v3 v4 s) v1 v3 v4 σ

set_option maxRecDepth 100000 in
theorem m_X2_bequest {y : LY} {l : Launch}   {σ : ST} {a : (Int32 × ST)} (h : T_X2_bequest σ = some a) : MU y l yX2_bequest cX2_bequest 5 (some .int) (rmd 6) [.ref (ad y 0)] σ (xI a) := by
  refine MU.of (φ := xI) h (by decide +kernel) rfl (fun E X Z hy => ?_)
  have X : CX y l E cX2_bequest 5 RX2 (rmd 6) := X
  show WW y l E 5 _ 0 [(0, .ref (ad y 0))] [] σ (T_X2_bequest σ)
  unfold T_X2_bequest
  refine r_aload_n (pc := 0) X dX2_bequest_0 0 rfl rfl ?_
  refine r_geti (pc := 1) X dX2_bequest_1 fl_X2_38 oc_0 rfl (fun x1 => ?_)
  refine r_istore_n (pc := 4) (lv' := [(1, .int _), (0, .ref _)]) X dX2_bequest_4 rfl (by decide) rfl ?_
  refine r_aload_n (pc := 5) X dX2_bequest_5 1 rfl rfl ?_
  refine r_iconst (pc := 6) X dX2_bequest_6 kc_0 ?_
  refine r_puti (pc := 7) X dX2_bequest_7 fl_X2_38 fw_2_7 oc_0 rfl (fun σ2 => ?_)
  refine r_aload_n (pc := 10) X dX2_bequest_10 1 rfl rfl ?_
  refine r_iload_n (pc := 11) X dX2_bequest_11 0 rfl rfl ?_
  refine r_callvp (pc := 12) X dX2_bequest_12 cf_X2_formFault ml_X2_64 (rf rfl rfl) hy oc_0.1 hc_2 (fun b hb => m_X2_formFault hb) rfl rfl (Nat.le_of_ble_eq_true rfl) (fun x3 => ?_)
  refine r_istore_n (pc := 15) (lv' := [(2, .int _), (1, .int _), (0, .ref _)]) X dX2_bequest_15 rfl (by decide) rfl ?_
  refine r_iload_n (pc := 16) X dX2_bequest_16 0 rfl rfl ?_
  refine r_if_lt (pc := 17) (tgt := 26) X dX2_bequest_17 (by decide) ?_ ?_
  · refine r_aload_n (pc := 26) X dX2_bequest_26 2 rfl rfl ?_
    refine r_callvV (pc := 27) X dX2_bequest_27 cf_X2_think ml_X2_67 (rf rfl rfl) hy oc_0.1 hc_2 (fun b hb => m_X2_think hb) rfl rfl (Nat.le_of_ble_eq_true rfl) (fun σ6 => ?_)
    refine r_iconst (pc := 30) X dX2_bequest_30 kc_0 ?_
    refine r_istore_n (pc := 31) (lv' := [(3, .int _), (2, .int _), (1, .int _), (0, .ref _)]) X dX2_bequest_31 rfl (by decide) rfl ?_
    refine r_iconst (pc := 32) X dX2_bequest_32 kc_0 ?_
    refine r_istore (pc := 33) (lv' := [(4, .int _), (3, .int _), (2, .int _), (1, .int _), (0, .ref _)]) X dX2_bequest_33 (by decide) rfl ?_
    refine r_sub [4, 3, 1, 0] rfl ?_
    exact s_X2_bequest_L35 X Z hy FU x1 0 0 σ6
  · refine r_sipush (pc := 20) X dX2_bequest_20 ks_m1000 ?_
    refine r_iload_n (pc := 23) X dX2_bequest_23 0 rfl rfl ?_
    refine r_isub (pc := 24) X dX2_bequest_24 ?_
    exact r_iret (pc := 25) X Z dX2_bequest_25 rfl

set_option maxRecDepth 100000 in
theorem m_X2_bagOf {y : LY} {l : Launch}  {a0 : Int32} {a1 : Int32} {σ : ST} {a : (Int32 × ST)} (h : T_X2_bagOf a0 a1 σ = some a) : MU y l yX2_bagOf cX2_bagOf 3 (some .int) (rmd 2) [.ref (ad y 0), .int a0, .int a1] σ (xI a) := by
  refine MU.of (φ := xI) h (by decide +kernel) rfl (fun E X Z hy => ?_)
  have X : CX y l E cX2_bagOf 3 RX2 (rmd 2) := X
  show WW y l E 3 _ 0 [(0, .ref (ad y 0)), (1, .int a0), (2, .int a1)] [] σ (T_X2_bagOf a0 a1 σ)
  unfold T_X2_bagOf
  refine r_aload_n (pc := 0) X dX2_bagOf_0 0 rfl rfl ?_
  refine r_geto (pc := 1) 1 X dX2_bagOf_1 fl_X2_12 rfl (by decide) ?_
  refine r_iload_n (pc := 4) X dX2_bagOf_4 1 rfl rfl ?_
  refine r_callvp (pc := 5) X dX2_bagOf_5 cf_X0_hasBag ml_X2_111 (rf rfl rfl) hy oc_1.1 (hc_0 (by decide)) (fun b hb => m_X0_hasBag (by decide) hb) rfl rfl (Nat.le_of_ble_eq_true rfl) (fun x1 => ?_)
  refine r_if_ne (pc := 8) (tgt := 17) X dX2_bagOf_8 (by decide) ?_ ?_
  · refine r_iload_n (pc := 17) X dX2_bagOf_17 2 rfl rfl ?_
    refine r_ite (fun h0 => ?_) (fun h0 => ?_)
    · refine r_tabIn (pc := 18) (tgt := 60) (off := 42) X dX2_bagOf_18 h0 (by decide) (by decide) (by decide) (by decide) ?_
      refine r_aload_n (pc := 60) X dX2_bagOf_60 0 rfl rfl ?_
      refine r_geto (pc := 61) 1 X dX2_bagOf_61 fl_X2_12 rfl (by decide) ?_
      refine r_geta (pc := 64) X dX2_bagOf_64 fl_X2_114 oc_1 (by decide) ?_
      refine r_iload_n (pc := 67) X dX2_bagOf_67 1 rfl rfl ?_
      refine r_iald (pc := 68) X dX2_bagOf_68 ar_1_1 (fun x12 => ?_)
      exact r_iret (pc := 69) X Z dX2_bagOf_69 rfl
    · refine r_ite (fun h1 => ?_) (fun h1 => ?_)
      · refine r_tabIn (pc := 18) (tgt := 70) (off := 52) X dX2_bagOf_18 h1 (by decide) (by decide) (by decide) (by decide) ?_
        refine r_aload_n (pc := 70) X dX2_bagOf_70 0 rfl rfl ?_
        refine r_geto (pc := 71) 1 X dX2_bagOf_71 fl_X2_12 rfl (by decide) ?_
        refine r_geta (pc := 74) X dX2_bagOf_74 fl_X2_117 oc_1 (by decide) ?_
        refine r_iload_n (pc := 77) X dX2_bagOf_77 1 rfl rfl ?_
        refine r_iald (pc := 78) X dX2_bagOf_78 ar_1_2 (fun x11 => ?_)
        exact r_iret (pc := 79) X Z dX2_bagOf_79 rfl
      · refine r_ite (fun h2 => ?_) (fun h2 => ?_)
        · refine r_tabIn (pc := 18) (tgt := 80) (off := 62) X dX2_bagOf_18 h2 (by decide) (by decide) (by decide) (by decide) ?_
          refine r_aload_n (pc := 80) X dX2_bagOf_80 0 rfl rfl ?_
          refine r_geto (pc := 81) 1 X dX2_bagOf_81 fl_X2_12 rfl (by decide) ?_
          refine r_geta (pc := 84) X dX2_bagOf_84 fl_X2_120 oc_1 (by decide) ?_
          refine r_iload_n (pc := 87) X dX2_bagOf_87 1 rfl rfl ?_
          refine r_iald (pc := 88) X dX2_bagOf_88 ar_1_3 (fun x10 => ?_)
          exact r_iret (pc := 89) X Z dX2_bagOf_89 rfl
        · refine r_ite (fun h3 => ?_) (fun h3 => ?_)
          · refine r_tabIn (pc := 18) (tgt := 90) (off := 72) X dX2_bagOf_18 h3 (by decide) (by decide) (by decide) (by decide) ?_
            refine r_aload_n (pc := 90) X dX2_bagOf_90 0 rfl rfl ?_
            refine r_geto (pc := 91) 1 X dX2_bagOf_91 fl_X2_12 rfl (by decide) ?_
            refine r_geta (pc := 94) X dX2_bagOf_94 fl_X2_123 oc_1 (by decide) ?_
            refine r_iload_n (pc := 97) X dX2_bagOf_97 1 rfl rfl ?_
            refine r_iald (pc := 98) X dX2_bagOf_98 ar_1_4 (fun x9 => ?_)
            exact r_iret (pc := 99) X Z dX2_bagOf_99 rfl
          · refine r_ite (fun h4 => ?_) (fun h4 => ?_)
            · refine r_tabIn (pc := 18) (tgt := 100) (off := 82) X dX2_bagOf_18 h4 (by decide) (by decide) (by decide) (by decide) ?_
              refine r_aload_n (pc := 100) X dX2_bagOf_100 0 rfl rfl ?_
              refine r_geto (pc := 101) 1 X dX2_bagOf_101 fl_X2_12 rfl (by decide) ?_
              refine r_geta (pc := 104) X dX2_bagOf_104 fl_X2_126 oc_1 (by decide) ?_
              refine r_iload_n (pc := 107) X dX2_bagOf_107 1 rfl rfl ?_
              refine r_iald (pc := 108) X dX2_bagOf_108 ar_1_5 (fun x8 => ?_)
              exact r_iret (pc := 109) X Z dX2_bagOf_109 rfl
            · refine r_ite (fun h5 => ?_) (fun h5 => ?_)
              · refine r_tabIn (pc := 18) (tgt := 110) (off := 92) X dX2_bagOf_18 h5 (by decide) (by decide) (by decide) (by decide) ?_
                refine r_aload_n (pc := 110) X dX2_bagOf_110 0 rfl rfl ?_
                refine r_geto (pc := 111) 1 X dX2_bagOf_111 fl_X2_12 rfl (by decide) ?_
                refine r_geta (pc := 114) X dX2_bagOf_114 fl_X2_129 oc_1 (by decide) ?_
                refine r_iload_n (pc := 117) X dX2_bagOf_117 1 rfl rfl ?_
                refine r_iald (pc := 118) X dX2_bagOf_118 ar_1_6 (fun x7 => ?_)
                exact r_iret (pc := 119) X Z dX2_bagOf_119 rfl
              · refine r_ite (fun h6 => ?_) (fun h6 => ?_)
                · refine r_tabIn (pc := 18) (tgt := 120) (off := 102) X dX2_bagOf_18 h6 (by decide) (by decide) (by decide) (by decide) ?_
                  refine r_aload_n (pc := 120) X dX2_bagOf_120 0 rfl rfl ?_
                  refine r_geto (pc := 121) 1 X dX2_bagOf_121 fl_X2_12 rfl (by decide) ?_
                  refine r_iload_n (pc := 124) X dX2_bagOf_124 1 rfl rfl ?_
                  refine r_callvp (pc := 125) X dX2_bagOf_125 cf_X0_pullOf ml_X2_132 (rf rfl rfl) hy oc_1.1 (hc_0 (by decide)) (fun b hb => m_X0_pullOf (by decide) hb) rfl rfl (Nat.le_of_ble_eq_true rfl) (fun x5 => ?_)
                  exact r_iret (pc := 128) X Z dX2_bagOf_128 rfl
                · refine r_tabOut (pc := 18) (tgt := 129) X dX2_bagOf_18 (tab_out [(0 : Int32), (1 : Int32), (2 : Int32), (3 : Int32), (4 : Int32), (5 : Int32), (6 : Int32)] (List.forall_mem_cons.mpr ⟨h0, List.forall_mem_cons.mpr ⟨h1, List.forall_mem_cons.mpr ⟨h2, List.forall_mem_cons.mpr ⟨h3, List.forall_mem_cons.mpr ⟨h4, List.forall_mem_cons.mpr ⟨h5, List.forall_mem_cons.mpr ⟨h6, List.forall_mem_nil _⟩⟩⟩⟩⟩⟩⟩) (by decide)) (by decide) ?_
                  refine r_aload_n (pc := 129) X dX2_bagOf_129 0 rfl rfl ?_
                  refine r_bipush (pc := 130) X dX2_bagOf_130 kb_m2 ?_
                  refine r_callvI (pc := 132) X dX2_bagOf_132 cf_X2_refuse ml_X2_60 (rf rfl rfl) hy oc_0.1 hc_2 (fun b hb => m_X2_refuse hb) rfl rfl (Nat.le_of_ble_eq_true rfl) (fun x3 σ4 => ?_)
                  exact r_iret (pc := 135) X Z dX2_bagOf_135 rfl
  · refine r_aload_n (pc := 11) X dX2_bagOf_11 0 rfl rfl ?_
    refine r_iconst (pc := 12) X dX2_bagOf_12 kc_m1 ?_
    refine r_callvI (pc := 13) X dX2_bagOf_13 cf_X2_refuse ml_X2_60 (rf rfl rfl) hy oc_0.1 hc_2 (fun b hb => m_X2_refuse hb) rfl rfl (Nat.le_of_ble_eq_true rfl) (fun x13 σ14 => ?_)
    exact r_iret (pc := 16) X Z dX2_bagOf_16 rfl

set_option maxRecDepth 100000 in
theorem m_X2_bearerOf {y : LY} {l : Launch}  {a0 : Int32} {a1 : Int32} {σ : ST} {a : (Int32 × ST)} (h : T_X2_bearerOf a0 a1 σ = some a) : MU y l yX2_bearerOf cX2_bearerOf 3 (some .int) (rmd 3) [.ref (ad y 0), .int a0, .int a1] σ (xI a) := by
  refine MU.of (φ := xI) h (by decide +kernel) rfl (fun E X Z hy => ?_)
  have X : CX y l E cX2_bearerOf 3 RX2 (rmd 3) := X
  show WW y l E 3 _ 0 [(0, .ref (ad y 0)), (1, .int a0), (2, .int a1)] [] σ (T_X2_bearerOf a0 a1 σ)
  unfold T_X2_bearerOf
  refine r_aload_n (pc := 0) X dX2_bearerOf_0 0 rfl rfl ?_
  refine r_geto (pc := 1) 1 X dX2_bearerOf_1 fl_X2_12 rfl (by decide) ?_
  refine r_iload_n (pc := 4) X dX2_bearerOf_4 1 rfl rfl ?_
  refine r_callvp (pc := 5) X dX2_bearerOf_5 cf_X0_hasBearer ml_X2_135 (rf rfl rfl) hy oc_1.1 (hc_0 (by decide)) (fun b hb => m_X0_hasBearer (by decide) hb) rfl rfl (Nat.le_of_ble_eq_true rfl) (fun x1 => ?_)
  refine r_if_ne (pc := 8) (tgt := 17) X dX2_bearerOf_8 (by decide) ?_ ?_
  · refine r_iload_n (pc := 17) X dX2_bearerOf_17 2 rfl rfl ?_
    refine r_ite (fun h0 => ?_) (fun h0 => ?_)
    · refine r_tabIn (pc := 18) (tgt := 56) (off := 38) X dX2_bearerOf_18 h0 (by decide) (by decide) (by decide) (by decide) ?_
      refine r_aload_n (pc := 56) X dX2_bearerOf_56 0 rfl rfl ?_
      refine r_geto (pc := 57) 1 X dX2_bearerOf_57 fl_X2_12 rfl (by decide) ?_
      refine r_geta (pc := 60) X dX2_bearerOf_60 fl_X2_138 oc_1 (by decide) ?_
      refine r_iload_n (pc := 63) X dX2_bearerOf_63 1 rfl rfl ?_
      refine r_iald (pc := 64) X dX2_bearerOf_64 ar_1_8 (fun x11 => ?_)
      exact r_iret (pc := 65) X Z dX2_bearerOf_65 rfl
    · refine r_ite (fun h1 => ?_) (fun h1 => ?_)
      · refine r_tabIn (pc := 18) (tgt := 66) (off := 48) X dX2_bearerOf_18 h1 (by decide) (by decide) (by decide) (by decide) ?_
        refine r_aload_n (pc := 66) X dX2_bearerOf_66 0 rfl rfl ?_
        refine r_geto (pc := 67) 1 X dX2_bearerOf_67 fl_X2_12 rfl (by decide) ?_
        refine r_geta (pc := 70) X dX2_bearerOf_70 fl_X2_141 oc_1 (by decide) ?_
        refine r_iload_n (pc := 73) X dX2_bearerOf_73 1 rfl rfl ?_
        refine r_iald (pc := 74) X dX2_bearerOf_74 ar_1_9 (fun x10 => ?_)
        exact r_iret (pc := 75) X Z dX2_bearerOf_75 rfl
      · refine r_ite (fun h2 => ?_) (fun h2 => ?_)
        · refine r_tabIn (pc := 18) (tgt := 76) (off := 58) X dX2_bearerOf_18 h2 (by decide) (by decide) (by decide) (by decide) ?_
          refine r_aload_n (pc := 76) X dX2_bearerOf_76 0 rfl rfl ?_
          refine r_geto (pc := 77) 1 X dX2_bearerOf_77 fl_X2_12 rfl (by decide) ?_
          refine r_geta (pc := 80) X dX2_bearerOf_80 fl_X2_144 oc_1 (by decide) ?_
          refine r_iload_n (pc := 83) X dX2_bearerOf_83 1 rfl rfl ?_
          refine r_iald (pc := 84) X dX2_bearerOf_84 ar_1_10 (fun x9 => ?_)
          exact r_iret (pc := 85) X Z dX2_bearerOf_85 rfl
        · refine r_ite (fun h3 => ?_) (fun h3 => ?_)
          · refine r_tabIn (pc := 18) (tgt := 86) (off := 68) X dX2_bearerOf_18 h3 (by decide) (by decide) (by decide) (by decide) ?_
            refine r_aload_n (pc := 86) X dX2_bearerOf_86 0 rfl rfl ?_
            refine r_geto (pc := 87) 1 X dX2_bearerOf_87 fl_X2_12 rfl (by decide) ?_
            refine r_geta (pc := 90) X dX2_bearerOf_90 fl_X2_147 oc_1 (by decide) ?_
            refine r_iload_n (pc := 93) X dX2_bearerOf_93 1 rfl rfl ?_
            refine r_iald (pc := 94) X dX2_bearerOf_94 ar_1_11 (fun x8 => ?_)
            exact r_iret (pc := 95) X Z dX2_bearerOf_95 rfl
          · refine r_ite (fun h4 => ?_) (fun h4 => ?_)
            · refine r_tabIn (pc := 18) (tgt := 96) (off := 78) X dX2_bearerOf_18 h4 (by decide) (by decide) (by decide) (by decide) ?_
              refine r_aload_n (pc := 96) X dX2_bearerOf_96 0 rfl rfl ?_
              refine r_geto (pc := 97) 1 X dX2_bearerOf_97 fl_X2_12 rfl (by decide) ?_
              refine r_geta (pc := 100) X dX2_bearerOf_100 fl_X2_150 oc_1 (by decide) ?_
              refine r_iload_n (pc := 103) X dX2_bearerOf_103 1 rfl rfl ?_
              refine r_iald (pc := 104) X dX2_bearerOf_104 ar_1_12 (fun x7 => ?_)
              exact r_iret (pc := 105) X Z dX2_bearerOf_105 rfl
            · refine r_ite (fun h5 => ?_) (fun h5 => ?_)
              · refine r_tabIn (pc := 18) (tgt := 106) (off := 88) X dX2_bearerOf_18 h5 (by decide) (by decide) (by decide) (by decide) ?_
                refine r_aload_n (pc := 106) X dX2_bearerOf_106 0 rfl rfl ?_
                refine r_geto (pc := 107) 1 X dX2_bearerOf_107 fl_X2_12 rfl (by decide) ?_
                refine r_iload_n (pc := 110) X dX2_bearerOf_110 1 rfl rfl ?_
                refine r_callvp (pc := 111) X dX2_bearerOf_111 cf_X0_isLed ml_X2_153 (rf rfl rfl) hy oc_1.1 (hc_0 (by decide)) (fun b hb => m_X0_isLed (by decide) hb) rfl rfl (Nat.le_of_ble_eq_true rfl) (fun x5 => ?_)
                refine r_if_eq (pc := 114) (tgt := 121) X dX2_bearerOf_114 (by decide) ?_ ?_
                · refine r_iconst (pc := 121) X dX2_bearerOf_121 kc_0 ?_
                  exact r_iret (pc := 122) X Z dX2_bearerOf_122 rfl
                · refine r_iconst (pc := 117) X dX2_bearerOf_117 kc_1 ?_
                  refine r_goto (pc := 118) (tgt := 122) X dX2_bearerOf_118 (by decide) ?_
                  exact r_iret (pc := 122) X Z dX2_bearerOf_122 rfl
              · refine r_tabOut (pc := 18) (tgt := 123) X dX2_bearerOf_18 (tab_out [(0 : Int32), (1 : Int32), (2 : Int32), (3 : Int32), (4 : Int32), (5 : Int32)] (List.forall_mem_cons.mpr ⟨h0, List.forall_mem_cons.mpr ⟨h1, List.forall_mem_cons.mpr ⟨h2, List.forall_mem_cons.mpr ⟨h3, List.forall_mem_cons.mpr ⟨h4, List.forall_mem_cons.mpr ⟨h5, List.forall_mem_nil _⟩⟩⟩⟩⟩⟩) (by decide)) (by decide) ?_
                refine r_aload_n (pc := 123) X dX2_bearerOf_123 0 rfl rfl ?_
                refine r_bipush (pc := 124) X dX2_bearerOf_124 kb_m2 ?_
                refine r_callvI (pc := 126) X dX2_bearerOf_126 cf_X2_refuse ml_X2_60 (rf rfl rfl) hy oc_0.1 hc_2 (fun b hb => m_X2_refuse hb) rfl rfl (Nat.le_of_ble_eq_true rfl) (fun x3 σ4 => ?_)
                exact r_iret (pc := 129) X Z dX2_bearerOf_129 rfl
  · refine r_aload_n (pc := 11) X dX2_bearerOf_11 0 rfl rfl ?_
    refine r_iconst (pc := 12) X dX2_bearerOf_12 kc_m1 ?_
    refine r_callvI (pc := 13) X dX2_bearerOf_13 cf_X2_refuse ml_X2_60 (rf rfl rfl) hy oc_0.1 hc_2 (fun b hb => m_X2_refuse hb) rfl rfl (Nat.le_of_ble_eq_true rfl) (fun x12 σ13 => ?_)
    exact r_iret (pc := 16) X Z dX2_bearerOf_16 rfl

set_option maxRecDepth 100000 in
theorem m_X2_count {y : LY} {l : Launch}  {a0 : Int32} {σ : ST} {a : Int32} (h : T_X2_count σ a0 = some a) : MU y l yX2_count cX2_count 2 (some .int) (rmd 4) [.ref (ad y 0), .int a0] σ (xp σ a) := by
  refine MU.of (φ := xp σ) h (by decide +kernel) rfl (fun E X Z hy => ?_)
  have X : CX y l E cX2_count 2 RX2 (rmd 4) := X
  show WW y l E 2 _ 0 [(0, .ref (ad y 0)), (1, .int a0)] [] σ (T_X2_count σ a0)
  unfold T_X2_count
  refine r_iload_n (pc := 0) X dX2_count_0 1 rfl rfl ?_
  refine r_ite (fun h0 => ?_) (fun h0 => ?_)
  · refine r_tabIn (pc := 1) (tgt := 56) (off := 55) X dX2_count_1 h0 (by decide) (by decide) (by decide) (by decide) ?_
    refine r_aload_n (pc := 56) X dX2_count_56 0 rfl rfl ?_
    refine r_geto (pc := 57) 1 X dX2_count_57 fl_X2_12 rfl (by decide) ?_
    refine r_geti (pc := 60) X dX2_count_60 fl_X2_156 oc_1 rfl (fun x14 => ?_)
    exact r_iret (pc := 63) X Z dX2_count_63 rfl
  · refine r_ite (fun h1 => ?_) (fun h1 => ?_)
    · refine r_tabIn (pc := 1) (tgt := 64) (off := 63) X dX2_count_1 h1 (by decide) (by decide) (by decide) (by decide) ?_
      refine r_aload_n (pc := 64) X dX2_count_64 0 rfl rfl ?_
      refine r_geto (pc := 65) 1 X dX2_count_65 fl_X2_12 rfl (by decide) ?_
      refine r_geti (pc := 68) X dX2_count_68 fl_X2_159 oc_1 rfl (fun x13 => ?_)
      exact r_iret (pc := 71) X Z dX2_count_71 rfl
    · refine r_ite (fun h2 => ?_) (fun h2 => ?_)
      · refine r_tabIn (pc := 1) (tgt := 72) (off := 71) X dX2_count_1 h2 (by decide) (by decide) (by decide) (by decide) ?_
        refine r_aload_n (pc := 72) X dX2_count_72 0 rfl rfl ?_
        refine r_geto (pc := 73) 1 X dX2_count_73 fl_X2_12 rfl (by decide) ?_
        refine r_geti (pc := 76) X dX2_count_76 fl_X2_104 oc_1 rfl (fun x12 => ?_)
        exact r_iret (pc := 79) X Z dX2_count_79 rfl
      · refine r_ite (fun h3 => ?_) (fun h3 => ?_)
        · refine r_tabIn (pc := 1) (tgt := 80) (off := 79) X dX2_count_1 h3 (by decide) (by decide) (by decide) (by decide) ?_
          refine r_aload_n (pc := 80) X dX2_count_80 0 rfl rfl ?_
          refine r_geto (pc := 81) 1 X dX2_count_81 fl_X2_12 rfl (by decide) ?_
          refine r_geti (pc := 84) X dX2_count_84 fl_X2_101 oc_1 rfl (fun x11 => ?_)
          exact r_iret (pc := 87) X Z dX2_count_87 rfl
        · refine r_ite (fun h4 => ?_) (fun h4 => ?_)
          · refine r_tabIn (pc := 1) (tgt := 88) (off := 87) X dX2_count_1 h4 (by decide) (by decide) (by decide) (by decide) ?_
            refine r_aload_n (pc := 88) X dX2_count_88 0 rfl rfl ?_
            refine r_geto (pc := 89) 1 X dX2_count_89 fl_X2_12 rfl (by decide) ?_
            refine r_callvp (pc := 92) X dX2_count_92 cf_X0_bagsHad ml_X2_162 (rf rfl rfl) hy oc_1.1 (hc_0 (by decide)) (fun b hb => m_X0_bagsHad (by decide) hb) rfl rfl (Nat.le_of_ble_eq_true rfl) (fun x9 => ?_)
            exact r_iret (pc := 95) X Z dX2_count_95 rfl
          · refine r_ite (fun h5 => ?_) (fun h5 => ?_)
            · refine r_tabIn (pc := 1) (tgt := 96) (off := 95) X dX2_count_1 h5 (by decide) (by decide) (by decide) (by decide) ?_
              refine r_aload_n (pc := 96) X dX2_count_96 0 rfl rfl ?_
              refine r_geto (pc := 97) 1 X dX2_count_97 fl_X2_12 rfl (by decide) ?_
              refine r_callvp (pc := 100) X dX2_count_100 cf_X0_allBreath ml_X2_166 (rf rfl rfl) hy oc_1.1 (hc_0 (by decide)) (fun b hb => m_X0_allBreath (by decide) hb) rfl rfl (Nat.le_of_ble_eq_true rfl) (fun x7 => ?_)
              exact r_iret (pc := 103) X Z dX2_count_103 rfl
            · refine r_ite (fun h6 => ?_) (fun h6 => ?_)
              · refine r_tabIn (pc := 1) (tgt := 104) (off := 103) X dX2_count_1 h6 (by decide) (by decide) (by decide) (by decide) ?_
                refine r_aload_n (pc := 104) X dX2_count_104 0 rfl rfl ?_
                refine r_geto (pc := 105) 1 X dX2_count_105 fl_X2_12 rfl (by decide) ?_
                refine r_callvp (pc := 108) X dX2_count_108 cf_X0_ledOnes ml_X2_169 (rf rfl rfl) hy oc_1.1 (hc_0 (by decide)) (fun b hb => m_X0_ledOnes (by decide) hb) rfl rfl (Nat.le_of_ble_eq_true rfl) (fun x5 => ?_)
                exact r_iret (pc := 111) X Z dX2_count_111 rfl
              · refine r_ite (fun h7 => ?_) (fun h7 => ?_)
                · refine r_tabIn (pc := 1) (tgt := 112) (off := 111) X dX2_count_1 h7 (by decide) (by decide) (by decide) (by decide) ?_
                  refine r_aload_n (pc := 112) X dX2_count_112 0 rfl rfl ?_
                  refine r_geti (pc := 113) X dX2_count_113 fl_X2_38 oc_0 rfl (fun x4 => ?_)
                  exact r_iret (pc := 116) X Z dX2_count_116 rfl
                · refine r_ite (fun h8 => ?_) (fun h8 => ?_)
                  · refine r_tabIn (pc := 1) (tgt := 117) (off := 116) X dX2_count_1 h8 (by decide) (by decide) (by decide) (by decide) ?_
                    refine r_aload_n (pc := 117) X dX2_count_117 0 rfl rfl ?_
                    refine r_geti (pc := 118) X dX2_count_118 fl_X2_44 oc_0 rfl (fun x3 => ?_)
                    exact r_iret (pc := 121) X Z dX2_count_121 rfl
                  · refine r_ite (fun h9 => ?_) (fun h9 => ?_)
                    · refine r_tabIn (pc := 1) (tgt := 122) (off := 121) X dX2_count_1 h9 (by decide) (by decide) (by decide) (by decide) ?_
                      refine r_aload_n (pc := 122) X dX2_count_122 0 rfl rfl ?_
                      refine r_geti (pc := 123) X dX2_count_123 fl_X2_30 oc_0 rfl (fun x2 => ?_)
                      exact r_iret (pc := 126) X Z dX2_count_126 rfl
                    · refine r_tabOut (pc := 1) (tgt := 127) X dX2_count_1 (tab_out [(0 : Int32), (1 : Int32), (2 : Int32), (3 : Int32), (4 : Int32), (5 : Int32), (6 : Int32), (7 : Int32), (8 : Int32), (9 : Int32)] (List.forall_mem_cons.mpr ⟨h0, List.forall_mem_cons.mpr ⟨h1, List.forall_mem_cons.mpr ⟨h2, List.forall_mem_cons.mpr ⟨h3, List.forall_mem_cons.mpr ⟨h4, List.forall_mem_cons.mpr ⟨h5, List.forall_mem_cons.mpr ⟨h6, List.forall_mem_cons.mpr ⟨h7, List.forall_mem_cons.mpr ⟨h8, List.forall_mem_cons.mpr ⟨h9, List.forall_mem_nil _⟩⟩⟩⟩⟩⟩⟩⟩⟩⟩) (by decide)) (by decide) ?_
                      refine r_iload_n (pc := 127) X dX2_count_127 1 rfl rfl ?_
                      refine r_bipush (pc := 128) X dX2_count_128 kb_11 ?_
                      refine r_icmp_lt (pc := 130) (tgt := 151) X dX2_count_130 (by decide) ?_ ?_
                      · refine r_bipush (pc := 151) X dX2_count_151 kb_m9 ?_
                        exact r_iret (pc := 153) X Z dX2_count_153 rfl
                      · refine r_iload_n (pc := 133) X dX2_count_133 1 rfl rfl ?_
                        refine r_bipush (pc := 134) X dX2_count_134 kb_16 ?_
                        refine r_icmp_gt (pc := 136) (tgt := 151) X dX2_count_136 (by decide) ?_ ?_
                        · refine r_bipush (pc := 151) X dX2_count_151 kb_m9 ?_
                          exact r_iret (pc := 153) X Z dX2_count_153 rfl
                        · refine r_aload_n (pc := 139) X dX2_count_139 0 rfl rfl ?_
                          refine r_geta (pc := 140) X dX2_count_140 fl_X2_47 oc_0 (by decide) ?_
                          refine r_iload_n (pc := 143) X dX2_count_143 1 rfl rfl ?_
                          refine r_bipush (pc := 144) X dX2_count_144 kb_10 ?_
                          refine r_isub (pc := 146) X dX2_count_146 ?_
                          refine r_iald (pc := 147) X dX2_count_147 ar_0_10 (fun x1 => ?_)
                          refine r_goto (pc := 148) (tgt := 153) X dX2_count_148 (by decide) ?_
                          exact r_iret (pc := 153) X Z dX2_count_153 rfl

set_option maxRecDepth 100000 in
theorem s_X2_bag_j10 {y : LY} {l : Launch} {E : ET} (X : CX y l E cX2_bag 4 RX2 (rmd 1)) (Z : ZX E (some .int)) (hy : y.1 ≤ (eS E).heap.size)     (σ : ST) : WW y l E 4 (fun a => QM y E (xI a)) 10 [(0, .ref (ad y 0))] [] σ (T_X2_bag_j10   σ) := by
  unfold T_X2_bag_j10
  refine r_aload_n (pc := 10) X dX2_bag_10 0 rfl rfl ?_
  refine r_bipush (pc := 11) X dX2_bag_11 kb_m2 ?_
  refine r_callvI (pc := 13) X dX2_bag_13 cf_X2_refuse ml_X2_60 (rf rfl rfl) hy oc_0.1 hc_2 (fun b hb => m_X2_refuse hb) rfl rfl (Nat.le_of_ble_eq_true rfl) (fun x1 σ2 => ?_)
  exact r_iret (pc := 16) X Z dX2_bag_16 rfl

set_option maxRecDepth 100000 in
theorem s_X2_bag_j25 {y : LY} {l : Launch} {E : ET} (X : CX y l E cX2_bag 4 RX2 (rmd 1)) (Z : ZX E (some .int)) (hy : y.1 ≤ (eS E).heap.size)     (σ : ST) : WW y l E 4 (fun a => QM y E (xI a)) 25 [(0, .ref (ad y 0))] [] σ (T_X2_bag_j25   σ) := by
  unfold T_X2_bag_j25
  refine r_aload_n (pc := 25) X dX2_bag_25 0 rfl rfl ?_
  refine r_bipush (pc := 26) X dX2_bag_26 kb_m4 ?_
  refine r_callvI (pc := 28) X dX2_bag_28 cf_X2_refuse ml_X2_60 (rf rfl rfl) hy oc_0.1 hc_2 (fun b hb => m_X2_refuse hb) rfl rfl (Nat.le_of_ble_eq_true rfl) (fun x1 σ2 => ?_)
  exact r_iret (pc := 31) X Z dX2_bag_31 rfl

set_option maxRecDepth 100000 in
theorem s_X2_bag_j56 {y : LY} {l : Launch} {E : ET} (X : CX y l E cX2_bag 4 RX2 (rmd 1)) (Z : ZX E (some .int)) (hy : y.1 ≤ (eS E).heap.size)     (σ : ST) : WW y l E 4 (fun a => QM y E (xI a)) 56 [(0, .ref (ad y 0))] [] σ (T_X2_bag_j56   σ) := by
  unfold T_X2_bag_j56
  refine r_aload_n (pc := 56) X dX2_bag_56 0 rfl rfl ?_
  refine r_bipush (pc := 57) X dX2_bag_57 kb_m6 ?_
  refine r_callvI (pc := 59) X dX2_bag_59 cf_X2_refuse ml_X2_60 (rf rfl rfl) hy oc_0.1 hc_2 (fun b hb => m_X2_refuse hb) rfl rfl (Nat.le_of_ble_eq_true rfl) (fun x1 σ2 => ?_)
  exact r_iret (pc := 62) X Z dX2_bag_62 rfl

set_option maxRecDepth 100000 in
theorem m_X2_bag {y : LY} {l : Launch}  {a0 : Int32} {a1 : Int32} {a2 : Int32} {σ : ST} {a : (Int32 × ST)} (h : T_X2_bag a0 a1 a2 σ = some a) : MU y l yX2_bag cX2_bag 4 (some .int) (rmd 1) [.ref (ad y 0), .int a0, .int a1, .int a2] σ (xI a) := by
  refine MU.of (φ := xI) h (by decide +kernel) rfl (fun E X Z hy => ?_)
  have X : CX y l E cX2_bag 4 RX2 (rmd 1) := X
  show WW y l E 4 _ 0 [(0, .ref (ad y 0)), (1, .int a0), (2, .int a1), (3, .int a2)] [] σ (T_X2_bag a0 a1 a2 σ)
  unfold T_X2_bag
  refine r_iload_n (pc := 0) X dX2_bag_0 1 rfl rfl ?_
  refine r_if_lt (pc := 1) (tgt := 10) X dX2_bag_1 (by decide) ?_ ?_
  · refine r_sub [0] rfl ?_
    exact s_X2_bag_j10 X Z hy σ
  · refine r_iload_n (pc := 4) X dX2_bag_4 1 rfl rfl ?_
    refine r_bipush (pc := 5) X dX2_bag_5 kb_6 ?_
    refine r_icmp_lt (pc := 7) (tgt := 17) X dX2_bag_7 (by decide) ?_ ?_
    · refine r_iload_n (pc := 17) X dX2_bag_17 2 rfl rfl ?_
      refine r_if_lt (pc := 18) (tgt := 25) X dX2_bag_18 (by decide) ?_ ?_
      · refine r_sub [0] rfl ?_
        exact s_X2_bag_j25 X Z hy σ
      · refine r_iload_n (pc := 21) X dX2_bag_21 3 rfl rfl ?_
        refine r_if_ge (pc := 22) (tgt := 32) X dX2_bag_22 (by decide) ?_ ?_
        · refine r_iload_n (pc := 32) X dX2_bag_32 2 rfl rfl ?_
          refine r_bipush (pc := 33) X dX2_bag_33 kb_10 ?_
          refine r_icmp_ge (pc := 35) (tgt := 56) X dX2_bag_35 (by decide) ?_ ?_
          · refine r_sub [0] rfl ?_
            exact s_X2_bag_j56 X Z hy σ
          · refine r_iload_n (pc := 38) X dX2_bag_38 3 rfl rfl ?_
            refine r_bipush (pc := 39) X dX2_bag_39 kb_10 ?_
            refine r_icmp_ge (pc := 41) (tgt := 56) X dX2_bag_41 (by decide) ?_ ?_
            · refine r_sub [0] rfl ?_
              exact s_X2_bag_j56 X Z hy σ
            · refine r_aload_n (pc := 44) X dX2_bag_44 0 rfl rfl ?_
              refine r_geto (pc := 45) 1 X dX2_bag_45 fl_X2_12 rfl (by decide) ?_
              refine r_geti (pc := 48) X dX2_bag_48 fl_X2_156 oc_1 rfl (fun x1 => ?_)
              refine r_bipush (pc := 51) X dX2_bag_51 kb_6 ?_
              refine r_icmp_lt (pc := 53) (tgt := 63) X dX2_bag_53 (by decide) ?_ ?_
              · refine r_aload_n (pc := 63) X dX2_bag_63 0 rfl rfl ?_
                refine r_callvV (pc := 64) X dX2_bag_64 cf_X2_forgetPast ml_X2_78 (rf rfl rfl) hy oc_0.1 hc_2 (fun b hb => m_X2_forgetPast hb) rfl rfl (Nat.le_of_ble_eq_true rfl) (fun σ3 => ?_)
                refine r_aload_n (pc := 67) X dX2_bag_67 0 rfl rfl ?_
                refine r_geto (pc := 68) 1 X dX2_bag_68 fl_X2_12 rfl (by decide) ?_
                refine r_iload_n (pc := 71) X dX2_bag_71 1 rfl rfl ?_
                refine r_iload_n (pc := 72) X dX2_bag_72 2 rfl rfl ?_
                refine r_iload_n (pc := 73) X dX2_bag_73 3 rfl rfl ?_
                refine r_callvI (pc := 74) X dX2_bag_74 cf_X0_addBag ml_X2_87 (rf rfl rfl) hy oc_1.1 (hc_0 (by decide)) (fun b hb => m_X0_addBag (by decide) hb) rfl rfl (Nat.le_of_ble_eq_true rfl) (fun x4 σ5 => ?_)
                exact r_iret (pc := 77) X Z dX2_bag_77 rfl
              · refine r_sub [0] rfl ?_
                exact s_X2_bag_j56 X Z hy σ
        · refine r_sub [0] rfl ?_
          exact s_X2_bag_j25 X Z hy σ
    · refine r_sub [0] rfl ?_
      exact s_X2_bag_j10 X Z hy σ

set_option maxRecDepth 100000 in
theorem s_X2_bearer_j12 {y : LY} {l : Launch} {E : ET} (X : CX y l E cX2_bearer 4 RX2 (rmd 1)) (Z : ZX E (some .int)) (hy : y.1 ≤ (eS E).heap.size)     (σ : ST) : WW y l E 4 (fun a => QM y E (xI a)) 12 [(0, .ref (ad y 0))] [] σ (T_X2_bearer_j12   σ) := by
  unfold T_X2_bearer_j12
  refine r_aload_n (pc := 12) X dX2_bearer_12 0 rfl rfl ?_
  refine r_bipush (pc := 13) X dX2_bearer_13 kb_m4 ?_
  refine r_callvI (pc := 15) X dX2_bearer_15 cf_X2_refuse ml_X2_60 (rf rfl rfl) hy oc_0.1 hc_2 (fun b hb => m_X2_refuse hb) rfl rfl (Nat.le_of_ble_eq_true rfl) (fun x1 σ2 => ?_)
  exact r_iret (pc := 18) X Z dX2_bearer_18 rfl

set_option maxRecDepth 100000 in
theorem s_X2_bearer_j48 {y : LY} {l : Launch} {E : ET} (X : CX y l E cX2_bearer 4 RX2 (rmd 1)) (Z : ZX E (some .int)) (hy : y.1 ≤ (eS E).heap.size)     (σ : ST) : WW y l E 4 (fun a => QM y E (xI a)) 48 [(0, .ref (ad y 0))] [] σ (T_X2_bearer_j48   σ) := by
  unfold T_X2_bearer_j48
  refine r_aload_n (pc := 48) X dX2_bearer_48 0 rfl rfl ?_
  refine r_bipush (pc := 49) X dX2_bearer_49 kb_m6 ?_
  refine r_callvI (pc := 51) X dX2_bearer_51 cf_X2_refuse ml_X2_60 (rf rfl rfl) hy oc_0.1 hc_2 (fun b hb => m_X2_refuse hb) rfl rfl (Nat.le_of_ble_eq_true rfl) (fun x1 σ2 => ?_)
  exact r_iret (pc := 54) X Z dX2_bearer_54 rfl

set_option maxRecDepth 100000 in
theorem m_X2_bearer {y : LY} {l : Launch}  {a0 : Int32} {a1 : Int32} {a2 : Int32} {σ : ST} {a : (Int32 × ST)} (h : T_X2_bearer a0 a1 a2 σ = some a) : MU y l yX2_bearer cX2_bearer 4 (some .int) (rmd 1) [.ref (ad y 0), .int a0, .int a1, .int a2] σ (xI a) := by
  refine MU.of (φ := xI) h (by decide +kernel) rfl (fun E X Z hy => ?_)
  have X : CX y l E cX2_bearer 4 RX2 (rmd 1) := X
  show WW y l E 4 _ 0 [(0, .ref (ad y 0)), (1, .int a0), (2, .int a1), (3, .int a2)] [] σ (T_X2_bearer a0 a1 a2 σ)
  unfold T_X2_bearer
  refine r_iload_n (pc := 0) X dX2_bearer_0 1 rfl rfl ?_
  refine r_if_lt (pc := 1) (tgt := 12) X dX2_bearer_1 (by decide) ?_ ?_
  · refine r_sub [0] rfl ?_
    exact s_X2_bearer_j12 X Z hy σ
  · refine r_iload_n (pc := 4) X dX2_bearer_4 2 rfl rfl ?_
    refine r_if_lt (pc := 5) (tgt := 12) X dX2_bearer_5 (by decide) ?_ ?_
    · refine r_sub [0] rfl ?_
      exact s_X2_bearer_j12 X Z hy σ
    · refine r_iload_n (pc := 8) X dX2_bearer_8 3 rfl rfl ?_
      refine r_if_ge (pc := 9) (tgt := 19) X dX2_bearer_9 (by decide) ?_ ?_
      · refine r_iload_n (pc := 19) X dX2_bearer_19 1 rfl rfl ?_
        refine r_bipush (pc := 20) X dX2_bearer_20 kb_10 ?_
        refine r_icmp_ge (pc := 22) (tgt := 48) X dX2_bearer_22 (by decide) ?_ ?_
        · refine r_sub [0] rfl ?_
          exact s_X2_bearer_j48 X Z hy σ
        · refine r_iload_n (pc := 25) X dX2_bearer_25 2 rfl rfl ?_
          refine r_bipush (pc := 26) X dX2_bearer_26 kb_10 ?_
          refine r_icmp_ge (pc := 28) (tgt := 48) X dX2_bearer_28 (by decide) ?_ ?_
          · refine r_sub [0] rfl ?_
            exact s_X2_bearer_j48 X Z hy σ
          · refine r_iload_n (pc := 31) X dX2_bearer_31 3 rfl rfl ?_
            refine r_bipush (pc := 32) X dX2_bearer_32 kb_10 ?_
            refine r_icmp_ge (pc := 34) (tgt := 48) X dX2_bearer_34 (by decide) ?_ ?_
            · refine r_sub [0] rfl ?_
              exact s_X2_bearer_j48 X Z hy σ
            · refine r_aload_n (pc := 37) X dX2_bearer_37 0 rfl rfl ?_
              refine r_geto (pc := 38) 1 X dX2_bearer_38 fl_X2_12 rfl (by decide) ?_
              refine r_geti (pc := 41) X dX2_bearer_41 fl_X2_159 oc_1 rfl (fun x1 => ?_)
              refine r_iconst (pc := 44) X dX2_bearer_44 kc_5 ?_
              refine r_icmp_lt (pc := 45) (tgt := 55) X dX2_bearer_45 (by decide) ?_ ?_
              · refine r_aload_n (pc := 55) X dX2_bearer_55 0 rfl rfl ?_
                refine r_callvV (pc := 56) X dX2_bearer_56 cf_X2_forgetPast ml_X2_78 (rf rfl rfl) hy oc_0.1 hc_2 (fun b hb => m_X2_forgetPast hb) rfl rfl (Nat.le_of_ble_eq_true rfl) (fun σ3 => ?_)
                refine r_aload_n (pc := 59) X dX2_bearer_59 0 rfl rfl ?_
                refine r_geto (pc := 60) 1 X dX2_bearer_60 fl_X2_12 rfl (by decide) ?_
                refine r_iload_n (pc := 63) X dX2_bearer_63 1 rfl rfl ?_
                refine r_iload_n (pc := 64) X dX2_bearer_64 2 rfl rfl ?_
                refine r_iload_n (pc := 65) X dX2_bearer_65 3 rfl rfl ?_
                refine r_callvI (pc := 66) X dX2_bearer_66 cf_X0_addBearer ml_X2_91 (rf rfl rfl) hy oc_1.1 (hc_0 (by decide)) (fun b hb => m_X0_addBearer (by decide) hb) rfl rfl (Nat.le_of_ble_eq_true rfl) (fun x4 σ5 => ?_)
                exact r_iret (pc := 69) X Z dX2_bearer_69 rfl
              · refine r_sub [0] rfl ?_
                exact s_X2_bearer_j48 X Z hy σ
      · refine r_sub [0] rfl ?_
        exact s_X2_bearer_j12 X Z hy σ

set_option maxRecDepth 100000 in
theorem s_X2_remember_j58 {y : LY} {l : Launch} {E : ET} (X : CX y l E cX2_remember 3 RX2 (rmd 2)) (Z : ZX E none) (hy : y.1 ≤ (eS E).heap.size)     (σ : ST) : WW y l E 3 (fun a => QM y E (xV a)) 58 [(0, .ref (ad y 0))] [] σ (T_X2_remember_j58   σ) := by
  unfold T_X2_remember_j58
  refine r_aload_n (pc := 58) X dX2_remember_58 0 rfl rfl ?_
  refine r_getp (pc := 59) X dX2_remember_59 fl_X2_26 ?_
  refine r_aload_n (pc := 62) X dX2_remember_62 0 rfl rfl ?_
  refine r_geti (pc := 63) X dX2_remember_63 fl_X2_30 oc_0 rfl (fun x1 => ?_)
  refine r_aald (pc := 66) X dX2_remember_66 (fun w2 hw2 => ?_)
  refine r_aload_n (pc := 67) X dX2_remember_67 0 rfl rfl ?_
  refine r_geto (pc := 68) 1 X dX2_remember_68 fl_X2_12 rfl (by decide) ?_
  refine r_callvV (pc := 71) X dX2_remember_71 cf_X0_copyFrom ml_X2_74 (rf rfl rfl) hy (oc_st hw2).1 (hc_0 hw2) (fun b hb => m_X0_copyFrom hw2 (by decide) hb) rfl rfl (Nat.le_of_ble_eq_true rfl) (fun σ4 => ?_)
  refine r_aload_n (pc := 74) X dX2_remember_74 0 rfl rfl ?_
  refine r_dup (pc := 75) X dX2_remember_75 rfl ?_
  refine r_geti (pc := 76) X dX2_remember_76 fl_X2_30 oc_0 rfl (fun x5 => ?_)
  refine r_iconst (pc := 79) X dX2_remember_79 kc_1 ?_
  refine r_iadd (pc := 80) X dX2_remember_80 ?_
  refine r_puti (pc := 81) X dX2_remember_81 fl_X2_30 fw_2_5 oc_0 rfl (fun σ6 => ?_)
  exact r_vret (pc := 84) X Z dX2_remember_84 rfl

set_option maxRecDepth 100000 in
theorem s_X2_remember_L18 {y : LY} {l : Launch} {E : ET} (X : CX y l E cX2_remember 3 RX2 (rmd 2)) (Z : ZX E none) (hy : y.1 ≤ (eS E).heap.size)     (n : Nat) : ∀ (v1 : Nat) (hv1 : 1 ≤ v1 ∧ v1 ≤ 11) (v2 : Int32) (σ : ST), WW y l E 3 (fun a => QM y E (xV a)) 18 [(0, .ref (ad y 0)), (1, .ref (ad y v1)), (2, .int v2)] [] σ (T_X2_remember_L18  n v1 v2 σ) := by
  induction n with
  | zero => intros; exact r_none rfl
  | succ n ih =>
    intro v1 hv1 v2 σ
    unfold T_X2_remember_L18
    refine r_iload_n (pc := 18) X dX2_remember_18 2 rfl rfl ?_
    refine r_bipush (pc := 19) X dX2_remember_19 kb_8 ?_
    refine r_icmp_ge (pc := 21) (tgt := 44) X dX2_remember_21 (by decide) ?_ ?_
    · refine r_aload_n (pc := 44) X dX2_remember_44 0 rfl rfl ?_
      refine r_getp (pc := 45) X dX2_remember_45 fl_X2_26 ?_
      refine r_bipush (pc := 48) X dX2_remember_48 kb_7 ?_
      refine r_aload_n (pc := 50) X dX2_remember_50 1 rfl rfl ?_
      refine r_aast (pc := 51) X dX2_remember_51 hv1 (fun σ1 => ?_)
      refine r_aload_n (pc := 52) X dX2_remember_52 0 rfl rfl ?_
      refine r_bipush (pc := 53) X dX2_remember_53 kb_7 ?_
      refine r_puti (pc := 55) X dX2_remember_55 fl_X2_30 fw_2_5 oc_0 rfl (fun σ2 => ?_)
      refine r_sub [0] rfl ?_
      exact s_X2_remember_j58 X Z hy σ2
    · refine r_aload_n (pc := 24) X dX2_remember_24 0 rfl rfl ?_
      refine r_getp (pc := 25) X dX2_remember_25 fl_X2_26 ?_
      refine r_iload_n (pc := 28) X dX2_remember_28 2 rfl rfl ?_
      refine r_iconst (pc := 29) X dX2_remember_29 kc_1 ?_
      refine r_isub (pc := 30) X dX2_remember_30 ?_
      refine r_aload_n (pc := 31) X dX2_remember_31 0 rfl rfl ?_
      refine r_getp (pc := 32) X dX2_remember_32 fl_X2_26 ?_
      refine r_iload_n (pc := 35) X dX2_remember_35 2 rfl rfl ?_
      refine r_aald (pc := 36) X dX2_remember_36 (fun w3 hw3 => ?_)
      refine r_aast (pc := 37) X dX2_remember_37 hw3 (fun σ4 => ?_)
      refine r_iinc (pc := 38) (lv' := [(0, .ref _), (1, .ref _)]) X dX2_remember_38 2 rfl (congrArg (fun z => v2 + z) kc_1) (by decide) rfl (fun x5 => ?_)
      refine r_goto (pc := 41) (tgt := 18) X dX2_remember_41 (by decide) ?_
      refine r_sub [1, 2, 0] rfl ?_
      exact ih v1 hv1 x5 σ4

set_option maxRecDepth 100000 in
theorem m_X2_remember {y : LY} {l : Launch}   {σ : ST} {a : ST} (h : T_X2_remember σ = some a) : MU y l yX2_remember cX2_remember 3 none (rmd 2) [.ref (ad y 0)] σ (xV a) := by
  refine MU.of (φ := xV) h (by decide +kernel) rfl (fun E X Z hy => ?_)
  have X : CX y l E cX2_remember 3 RX2 (rmd 2) := X
  show WW y l E 3 _ 0 [(0, .ref (ad y 0))] [] σ (T_X2_remember σ)
  unfold T_X2_remember
  refine r_aload_n (pc := 0) X dX2_remember_0 0 rfl rfl ?_
  refine r_geti (pc := 1) X dX2_remember_1 fl_X2_30 oc_0 rfl (fun x1 => ?_)
  refine r_bipush (pc := 4) X dX2_remember_4 kb_8 ?_
  refine r_icmp_lt (pc := 6) (tgt := 58) X dX2_remember_6 (by decide) ?_ ?_
  · exact s_X2_remember_j58 X Z hy σ
  · refine r_aload_n (pc := 9) X dX2_remember_9 0 rfl rfl ?_
    refine r_getp (pc := 10) X dX2_remember_10 fl_X2_26 ?_
    refine r_iconst (pc := 13) X dX2_remember_13 kc_0 ?_
    refine r_aald (pc := 14) X dX2_remember_14 (fun w2 hw2 => ?_)
    refine r_astore_n (pc := 15) (lv' := [(1, .ref _), (0, .ref _)]) X dX2_remember_15 rfl (by decide) rfl ?_
    refine r_iconst (pc := 16) X dX2_remember_16 kc_1 ?_
    refine r_istore_n (pc := 17) (lv' := [(2, .int _), (1, .ref _), (0, .ref _)]) X dX2_remember_17 rfl (by decide) rfl ?_
    refine r_sub [2, 1, 0] rfl ?_
    exact s_X2_remember_L18 X Z hy FU w2 hw2 1 σ

set_option maxRecDepth 100000 in
theorem s_X2_gives_j22 {y : LY} {l : Launch} {E : ET} (X : CX y l E cX2_gives 4 RX2 (rmd 3)) (Z : ZX E (some .int)) (hy : y.1 ≤ (eS E).heap.size)     (σ : ST) : WW y l E 4 (fun a => QM y E (xI a)) 22 [(0, .ref (ad y 0))] [] σ (T_X2_gives_j22   σ) := by
  unfold T_X2_gives_j22
  refine r_aload_n (pc := 22) X dX2_gives_22 0 rfl rfl ?_
  refine r_iconst (pc := 23) X dX2_gives_23 kc_m1 ?_
  refine r_callvI (pc := 24) X dX2_gives_24 cf_X2_refuse ml_X2_60 (rf rfl rfl) hy oc_0.1 hc_2 (fun b hb => m_X2_refuse hb) rfl rfl (Nat.le_of_ble_eq_true rfl) (fun x1 σ2 => ?_)
  exact r_iret (pc := 27) X Z dX2_gives_27 rfl

set_option maxRecDepth 100000 in
theorem m_X2_gives {y : LY} {l : Launch}  {a0 : Int32} {a1 : Int32} {σ : ST} {a : (Int32 × ST)} (h : T_X2_gives a0 a1 σ = some a) : MU y l yX2_gives cX2_gives 4 (some .int) (rmd 3) [.ref (ad y 0), .int a0, .int a1] σ (xI a) := by
  refine MU.of (φ := xI) h (by decide +kernel) rfl (fun E X Z hy => ?_)
  have X : CX y l E cX2_gives 4 RX2 (rmd 3) := X
  show WW y l E 4 _ 0 [(0, .ref (ad y 0)), (1, .int a0), (2, .int a1)] [] σ (T_X2_gives a0 a1 σ)
  unfold T_X2_gives
  refine r_aload_n (pc := 0) X dX2_gives_0 0 rfl rfl ?_
  refine r_geto (pc := 1) 1 X dX2_gives_1 fl_X2_12 rfl (by decide) ?_
  refine r_iload_n (pc := 4) X dX2_gives_4 1 rfl rfl ?_
  refine r_callvp (pc := 5) X dX2_gives_5 cf_X0_hasBag ml_X2_111 (rf rfl rfl) hy oc_1.1 (hc_0 (by decide)) (fun b hb => m_X0_hasBag (by decide) hb) rfl rfl (Nat.le_of_ble_eq_true rfl) (fun x1 => ?_)
  refine r_if_eq (pc := 8) (tgt := 22) X dX2_gives_8 (by decide) ?_ ?_
  · refine r_sub [0] rfl ?_
    exact s_X2_gives_j22 X Z hy σ
  · refine r_aload_n (pc := 11) X dX2_gives_11 0 rfl rfl ?_
    refine r_geto (pc := 12) 1 X dX2_gives_12 fl_X2_12 rfl (by decide) ?_
    refine r_iload_n (pc := 15) X dX2_gives_15 2 rfl rfl ?_
    refine r_callvp (pc := 16) X dX2_gives_16 cf_X0_hasBearer ml_X2_135 (rf rfl rfl) hy oc_1.1 (hc_0 (by decide)) (fun b hb => m_X0_hasBearer (by decide) hb) rfl rfl (Nat.le_of_ble_eq_true rfl) (fun x3 => ?_)
    refine r_if_ne (pc := 19) (tgt := 28) X dX2_gives_19 (by decide) ?_ ?_
    · refine r_aload_n (pc := 28) X dX2_gives_28 0 rfl rfl ?_
      refine r_callvV (pc := 29) X dX2_gives_29 cf_X2_remember ml_X2_172 (rf rfl rfl) hy oc_0.1 hc_2 (fun b hb => m_X2_remember hb) rfl rfl (Nat.le_of_ble_eq_true rfl) (fun σ6 => ?_)
      refine r_aload_n (pc := 32) X dX2_gives_32 0 rfl rfl ?_
      refine r_geto (pc := 33) 1 X dX2_gives_33 fl_X2_12 rfl (by decide) ?_
      refine r_geta (pc := 36) X dX2_gives_36 fl_X2_147 oc_1 (by decide) ?_
      refine r_iload_n (pc := 39) X dX2_gives_39 2 rfl rfl ?_
      refine r_iald (pc := 40) X dX2_gives_40 ar_1_11 (fun x7 => ?_)
      refine r_istore_n (pc := 41) (lv' := [(3, .int _), (0, .ref _), (1, .int _), (2, .int _)]) X dX2_gives_41 rfl (by decide) rfl ?_
      refine r_aload_n (pc := 42) X dX2_gives_42 1 rfl rfl ?_
      refine r_geto (pc := 43) 1 X dX2_gives_43 fl_X2_12 rfl (by decide) ?_
      refine r_iload_n (pc := 46) X dX2_gives_46 2 rfl rfl ?_
      refine r_iload_n (pc := 47) X dX2_gives_47 3 rfl rfl ?_
      refine r_callvI (pc := 48) X dX2_gives_48 cf_X0_hand ml_X2_94 (rf rfl rfl) hy oc_1.1 (hc_0 (by decide)) (fun b hb => m_X0_hand (by decide) hb) rfl rfl (Nat.le_of_ble_eq_true rfl) (fun x8 σ9 => ?_)
      refine r_pop (pc := 51) X dX2_gives_51 rfl ?_
      refine r_iload_n (pc := 52) X dX2_gives_52 0 rfl rfl ?_
      exact r_iret (pc := 53) X Z dX2_gives_53 rfl
    · refine r_sub [0] rfl ?_
      exact s_X2_gives_j22 X Z hy σ

set_option maxRecDepth 100000 in
theorem s_X2_friends_j22 {y : LY} {l : Launch} {E : ET} (X : CX y l E cX2_friends 3 RX2 (rmd 3)) (Z : ZX E (some .int)) (hy : y.1 ≤ (eS E).heap.size)     (σ : ST) : WW y l E 3 (fun a => QM y E (xI a)) 22 [(0, .ref (ad y 0))] [] σ (T_X2_friends_j22   σ) := by
  unfold T_X2_friends_j22
  refine r_aload_n (pc := 22) X dX2_friends_22 0 rfl rfl ?_
  refine r_iconst (pc := 23) X dX2_friends_23 kc_m1 ?_
  refine r_callvI (pc := 24) X dX2_friends_24 cf_X2_refuse ml_X2_60 (rf rfl rfl) hy oc_0.1 hc_2 (fun b hb => m_X2_refuse hb) rfl rfl (Nat.le_of_ble_eq_true rfl) (fun x1 σ2 => ?_)
  exact r_iret (pc := 27) X Z dX2_friends_27 rfl

set_option maxRecDepth 100000 in
theorem m_X2_friends {y : LY} {l : Launch}  {a0 : Int32} {a1 : Int32} {σ : ST} {a : (Int32 × ST)} (h : T_X2_friends a0 a1 σ = some a) : MU y l yX2_friends cX2_friends 3 (some .int) (rmd 3) [.ref (ad y 0), .int a0, .int a1] σ (xI a) := by
  refine MU.of (φ := xI) h (by decide +kernel) rfl (fun E X Z hy => ?_)
  have X : CX y l E cX2_friends 3 RX2 (rmd 3) := X
  show WW y l E 3 _ 0 [(0, .ref (ad y 0)), (1, .int a0), (2, .int a1)] [] σ (T_X2_friends a0 a1 σ)
  unfold T_X2_friends
  refine r_aload_n (pc := 0) X dX2_friends_0 0 rfl rfl ?_
  refine r_geto (pc := 1) 1 X dX2_friends_1 fl_X2_12 rfl (by decide) ?_
  refine r_iload_n (pc := 4) X dX2_friends_4 1 rfl rfl ?_
  refine r_callvp (pc := 5) X dX2_friends_5 cf_X0_hasBag ml_X2_111 (rf rfl rfl) hy oc_1.1 (hc_0 (by decide)) (fun b hb => m_X0_hasBag (by decide) hb) rfl rfl (Nat.le_of_ble_eq_true rfl) (fun x1 => ?_)
  refine r_if_eq (pc := 8) (tgt := 22) X dX2_friends_8 (by decide) ?_ ?_
  · refine r_sub [0] rfl ?_
    exact s_X2_friends_j22 X Z hy σ
  · refine r_aload_n (pc := 11) X dX2_friends_11 0 rfl rfl ?_
    refine r_geto (pc := 12) 1 X dX2_friends_12 fl_X2_12 rfl (by decide) ?_
    refine r_iload_n (pc := 15) X dX2_friends_15 2 rfl rfl ?_
    refine r_callvp (pc := 16) X dX2_friends_16 cf_X0_hasBag ml_X2_111 (rf rfl rfl) hy oc_1.1 (hc_0 (by decide)) (fun b hb => m_X0_hasBag (by decide) hb) rfl rfl (Nat.le_of_ble_eq_true rfl) (fun x3 => ?_)
    refine r_if_ne (pc := 19) (tgt := 28) X dX2_friends_19 (by decide) ?_ ?_
    · refine r_aload_n (pc := 28) X dX2_friends_28 0 rfl rfl ?_
      refine r_callvV (pc := 29) X dX2_friends_29 cf_X2_forgetPast ml_X2_78 (rf rfl rfl) hy oc_0.1 hc_2 (fun b hb => m_X2_forgetPast hb) rfl rfl (Nat.le_of_ble_eq_true rfl) (fun σ6 => ?_)
      refine r_aload_n (pc := 32) X dX2_friends_32 0 rfl rfl ?_
      refine r_geto (pc := 33) 1 X dX2_friends_33 fl_X2_12 rfl (by decide) ?_
      refine r_iload_n (pc := 36) X dX2_friends_36 1 rfl rfl ?_
      refine r_iload_n (pc := 37) X dX2_friends_37 2 rfl rfl ?_
      refine r_callvI (pc := 38) X dX2_friends_38 cf_X0_befriend ml_X2_98 (rf rfl rfl) hy oc_1.1 (hc_0 (by decide)) (fun b hb => m_X0_befriend (by decide) hb) rfl rfl (Nat.le_of_ble_eq_true rfl) (fun x7 σ8 => ?_)
      refine r_pop (pc := 41) X dX2_friends_41 rfl ?_
      refine r_iload_n (pc := 42) X dX2_friends_42 1 rfl rfl ?_
      refine r_iload_n (pc := 43) X dX2_friends_43 2 rfl rfl ?_
      refine r_icmp_ne (pc := 44) (tgt := 51) X dX2_friends_44 (by decide) ?_ ?_
      · refine r_iconst (pc := 51) X dX2_friends_51 kc_1 ?_
        exact r_iret (pc := 52) X Z dX2_friends_52 rfl
      · refine r_iconst (pc := 47) X dX2_friends_47 kc_0 ?_
        refine r_goto (pc := 48) (tgt := 52) X dX2_friends_48 (by decide) ?_
        exact r_iret (pc := 52) X Z dX2_friends_52 rfl
    · refine r_sub [0] rfl ?_
      exact s_X2_friends_j22 X Z hy σ

set_option maxRecDepth 100000 in
theorem m_X2_isPlace {y : LY} {l : Launch}  {a0 : Int32} {σ : ST} {a : Int32} (h : T_X2_isPlace σ a0 = some a) : MU y l yX2_isPlace cX2_isPlace 1 (some .boolean) (rmd 0) [.int a0] σ (xp σ a) := by
  refine MU.of (φ := xp σ) h (by decide +kernel) rfl (fun E X Z hy => ?_)
  have X : CX y l E cX2_isPlace 1 RX2 (rmd 0) := X
  show WW y l E 1 _ 0 [(0, .int a0)] [] σ (T_X2_isPlace σ a0)
  unfold T_X2_isPlace
  refine r_iload_n (pc := 0) X dX2_isPlace_0 0 rfl rfl ?_
  refine r_if_lt (pc := 1) (tgt := 14) X dX2_isPlace_1 (by decide) ?_ ?_
  · refine r_iconst (pc := 14) X dX2_isPlace_14 kc_0 ?_
    exact r_zret (pc := 15) X Z dX2_isPlace_15 rfl (Or.inl rfl)
  · refine r_iload_n (pc := 4) X dX2_isPlace_4 0 rfl rfl ?_
    refine r_bipush (pc := 5) X dX2_isPlace_5 kb_10 ?_
    refine r_icmp_ge (pc := 7) (tgt := 14) X dX2_isPlace_7 (by decide) ?_ ?_
    · refine r_iconst (pc := 14) X dX2_isPlace_14 kc_0 ?_
      exact r_zret (pc := 15) X Z dX2_isPlace_15 rfl (Or.inl rfl)
    · refine r_iconst (pc := 10) X dX2_isPlace_10 kc_1 ?_
      refine r_goto (pc := 11) (tgt := 15) X dX2_isPlace_11 (by decide) ?_
      exact r_zret (pc := 15) X Z dX2_isPlace_15 rfl (Or.inr rfl)

set_option maxRecDepth 100000 in
theorem s_X2_wants_j18 {y : LY} {l : Launch} {E : ET} (X : CX y l E cX2_wants 4 RX2 (rmd 3)) (Z : ZX E (some .int)) (hy : y.1 ≤ (eS E).heap.size)     (σ : ST) : WW y l E 4 (fun a => QM y E (xI a)) 18 [(0, .ref (ad y 0))] [] σ (T_X2_wants_j18   σ) := by
  unfold T_X2_wants_j18
  refine r_aload_n (pc := 18) X dX2_wants_18 0 rfl rfl ?_
  refine r_iconst (pc := 19) X dX2_wants_19 kc_m1 ?_
  refine r_callvI (pc := 20) X dX2_wants_20 cf_X2_refuse ml_X2_60 (rf rfl rfl) hy oc_0.1 hc_2 (fun b hb => m_X2_refuse hb) rfl rfl (Nat.le_of_ble_eq_true rfl) (fun x1 σ2 => ?_)
  exact r_iret (pc := 23) X Z dX2_wants_23 rfl

set_option maxRecDepth 100000 in
theorem m_X2_wants {y : LY} {l : Launch}  {a0 : Int32} {a1 : Int32} {σ : ST} {a : (Int32 × ST)} (h : T_X2_wants a0 a1 σ = some a) : MU y l yX2_wants cX2_wants 4 (some .int) (rmd 3) [.ref (ad y 0), .int a0, .int a1] σ (xI a) := by
  refine MU.of (φ := xI) h (by decide +kernel) rfl (fun E X Z hy => ?_)
  have X : CX y l E cX2_wants 4 RX2 (rmd 3) := X
  show WW y l E 4 _ 0 [(0, .ref (ad y 0)), (1, .int a0), (2, .int a1)] [] σ (T_X2_wants a0 a1 σ)
  unfold T_X2_wants
  refine r_aload_n (pc := 0) X dX2_wants_0 0 rfl rfl ?_
  refine r_geto (pc := 1) 1 X dX2_wants_1 fl_X2_12 rfl (by decide) ?_
  refine r_iload_n (pc := 4) X dX2_wants_4 1 rfl rfl ?_
  refine r_callvp (pc := 5) X dX2_wants_5 cf_X0_hasBearer ml_X2_135 (rf rfl rfl) hy oc_1.1 (hc_0 (by decide)) (fun b hb => m_X0_hasBearer (by decide) hb) rfl rfl (Nat.le_of_ble_eq_true rfl) (fun x1 => ?_)
  refine r_if_eq (pc := 8) (tgt := 18) X dX2_wants_8 (by decide) ?_ ?_
  · refine r_sub [0] rfl ?_
    exact s_X2_wants_j18 X Z hy σ
  · refine r_iload_n (pc := 11) X dX2_wants_11 2 rfl rfl ?_
    refine r_callsp (pc := 12) X dX2_wants_12 cf_X2_isPlace ml_X2_175 (rf rfl rfl) hy (fun b hb => m_X2_isPlace hb) rfl rfl (Nat.le_of_ble_eq_true rfl) (fun x3 => ?_)
    refine r_if_ne (pc := 15) (tgt := 24) X dX2_wants_15 (by decide) ?_ ?_
    · refine r_aload_n (pc := 24) X dX2_wants_24 0 rfl rfl ?_
      refine r_callvV (pc := 25) X dX2_wants_25 cf_X2_remember ml_X2_172 (rf rfl rfl) hy oc_0.1 hc_2 (fun b hb => m_X2_remember hb) rfl rfl (Nat.le_of_ble_eq_true rfl) (fun σ6 => ?_)
      refine r_aload_n (pc := 28) X dX2_wants_28 0 rfl rfl ?_
      refine r_geto (pc := 29) 1 X dX2_wants_29 fl_X2_12 rfl (by decide) ?_
      refine r_geta (pc := 32) X dX2_wants_32 fl_X2_141 oc_1 (by decide) ?_
      refine r_iload_n (pc := 35) X dX2_wants_35 1 rfl rfl ?_
      refine r_iald (pc := 36) X dX2_wants_36 ar_1_9 (fun x7 => ?_)
      refine r_istore_n (pc := 37) (lv' := [(3, .int _), (0, .ref _), (1, .int _), (2, .int _)]) X dX2_wants_37 rfl (by decide) rfl ?_
      refine r_aload_n (pc := 38) X dX2_wants_38 1 rfl rfl ?_
      refine r_geto (pc := 39) 1 X dX2_wants_39 fl_X2_12 rfl (by decide) ?_
      refine r_geta (pc := 42) X dX2_wants_42 fl_X2_141 oc_1 (by decide) ?_
      refine r_iload_n (pc := 45) X dX2_wants_45 2 rfl rfl ?_
      refine r_iload_n (pc := 46) X dX2_wants_46 3 rfl rfl ?_
      refine r_iast (pc := 47) X dX2_wants_47 ar_1_9 (fun σ8 => ?_)
      refine r_iload_n (pc := 48) X dX2_wants_48 0 rfl rfl ?_
      exact r_iret (pc := 49) X Z dX2_wants_49 rfl
    · refine r_sub [0] rfl ?_
      exact s_X2_wants_j18 X Z hy σ

set_option maxRecDepth 100000 in
theorem s_X2_put_j18 {y : LY} {l : Launch} {E : ET} (X : CX y l E cX2_put 4 RX2 (rmd 3)) (Z : ZX E (some .int)) (hy : y.1 ≤ (eS E).heap.size)     (σ : ST) : WW y l E 4 (fun a => QM y E (xI a)) 18 [(0, .ref (ad y 0))] [] σ (T_X2_put_j18   σ) := by
  unfold T_X2_put_j18
  refine r_aload_n (pc := 18) X dX2_put_18 0 rfl rfl ?_
  refine r_iconst (pc := 19) X dX2_put_19 kc_m1 ?_
  refine r_callvI (pc := 20) X dX2_put_20 cf_X2_refuse ml_X2_60 (rf rfl rfl) hy oc_0.1 hc_2 (fun b hb => m_X2_refuse hb) rfl rfl (Nat.le_of_ble_eq_true rfl) (fun x1 σ2 => ?_)
  exact r_iret (pc := 23) X Z dX2_put_23 rfl

set_option maxRecDepth 100000 in
theorem m_X2_put {y : LY} {l : Launch}  {a0 : Int32} {a1 : Int32} {σ : ST} {a : (Int32 × ST)} (h : T_X2_put a0 a1 σ = some a) : MU y l yX2_put cX2_put 4 (some .int) (rmd 3) [.ref (ad y 0), .int a0, .int a1] σ (xI a) := by
  refine MU.of (φ := xI) h (by decide +kernel) rfl (fun E X Z hy => ?_)
  have X : CX y l E cX2_put 4 RX2 (rmd 3) := X
  show WW y l E 4 _ 0 [(0, .ref (ad y 0)), (1, .int a0), (2, .int a1)] [] σ (T_X2_put a0 a1 σ)
  unfold T_X2_put
  refine r_aload_n (pc := 0) X dX2_put_0 0 rfl rfl ?_
  refine r_geto (pc := 1) 1 X dX2_put_1 fl_X2_12 rfl (by decide) ?_
  refine r_iload_n (pc := 4) X dX2_put_4 1 rfl rfl ?_
  refine r_callvp (pc := 5) X dX2_put_5 cf_X0_hasBearer ml_X2_135 (rf rfl rfl) hy oc_1.1 (hc_0 (by decide)) (fun b hb => m_X0_hasBearer (by decide) hb) rfl rfl (Nat.le_of_ble_eq_true rfl) (fun x1 => ?_)
  refine r_if_eq (pc := 8) (tgt := 18) X dX2_put_8 (by decide) ?_ ?_
  · refine r_sub [0] rfl ?_
    exact s_X2_put_j18 X Z hy σ
  · refine r_iload_n (pc := 11) X dX2_put_11 2 rfl rfl ?_
    refine r_callsp (pc := 12) X dX2_put_12 cf_X2_isPlace ml_X2_175 (rf rfl rfl) hy (fun b hb => m_X2_isPlace hb) rfl rfl (Nat.le_of_ble_eq_true rfl) (fun x3 => ?_)
    refine r_if_ne (pc := 15) (tgt := 24) X dX2_put_15 (by decide) ?_ ?_
    · refine r_aload_n (pc := 24) X dX2_put_24 0 rfl rfl ?_
      refine r_callvV (pc := 25) X dX2_put_25 cf_X2_remember ml_X2_172 (rf rfl rfl) hy oc_0.1 hc_2 (fun b hb => m_X2_remember hb) rfl rfl (Nat.le_of_ble_eq_true rfl) (fun σ6 => ?_)
      refine r_aload_n (pc := 28) X dX2_put_28 0 rfl rfl ?_
      refine r_geto (pc := 29) 1 X dX2_put_29 fl_X2_12 rfl (by decide) ?_
      refine r_geta (pc := 32) X dX2_put_32 fl_X2_144 oc_1 (by decide) ?_
      refine r_iload_n (pc := 35) X dX2_put_35 1 rfl rfl ?_
      refine r_iald (pc := 36) X dX2_put_36 ar_1_10 (fun x7 => ?_)
      refine r_istore_n (pc := 37) (lv' := [(3, .int _), (0, .ref _), (1, .int _), (2, .int _)]) X dX2_put_37 rfl (by decide) rfl ?_
      refine r_aload_n (pc := 38) X dX2_put_38 1 rfl rfl ?_
      refine r_geto (pc := 39) 1 X dX2_put_39 fl_X2_12 rfl (by decide) ?_
      refine r_geta (pc := 42) X dX2_put_42 fl_X2_144 oc_1 (by decide) ?_
      refine r_iload_n (pc := 45) X dX2_put_45 2 rfl rfl ?_
      refine r_iload_n (pc := 46) X dX2_put_46 3 rfl rfl ?_
      refine r_iast (pc := 47) X dX2_put_47 ar_1_10 (fun σ8 => ?_)
      refine r_iload_n (pc := 48) X dX2_put_48 0 rfl rfl ?_
      exact r_iret (pc := 49) X Z dX2_put_49 rfl
    · refine r_sub [0] rfl ?_
      exact s_X2_put_j18 X Z hy σ

set_option maxRecDepth 100000 in
theorem m_X2_colonel {y : LY} {l : Launch}  {a0 : Int32} {σ : ST} {a : (Int32 × ST)} (h : T_X2_colonel a0 σ = some a) : MU y l yX2_colonel cX2_colonel 3 (some .int) (rmd 3) [.ref (ad y 0), .int a0] σ (xI a) := by
  refine MU.of (φ := xI) h (by decide +kernel) rfl (fun E X Z hy => ?_)
  have X : CX y l E cX2_colonel 3 RX2 (rmd 3) := X
  show WW y l E 3 _ 0 [(0, .ref (ad y 0)), (1, .int a0)] [] σ (T_X2_colonel a0 σ)
  unfold T_X2_colonel
  refine r_iload_n (pc := 0) X dX2_colonel_0 1 rfl rfl ?_
  refine r_callsp (pc := 1) X dX2_colonel_1 cf_X2_isPlace ml_X2_175 (rf rfl rfl) hy (fun b hb => m_X2_isPlace hb) rfl rfl (Nat.le_of_ble_eq_true rfl) (fun x1 => ?_)
  refine r_if_ne (pc := 4) (tgt := 13) X dX2_colonel_4 (by decide) ?_ ?_
  · refine r_aload_n (pc := 13) X dX2_colonel_13 0 rfl rfl ?_
    refine r_callvV (pc := 14) X dX2_colonel_14 cf_X2_remember ml_X2_172 (rf rfl rfl) hy oc_0.1 hc_2 (fun b hb => m_X2_remember hb) rfl rfl (Nat.le_of_ble_eq_true rfl) (fun σ4 => ?_)
    refine r_aload_n (pc := 17) X dX2_colonel_17 0 rfl rfl ?_
    refine r_geto (pc := 18) 1 X dX2_colonel_18 fl_X2_12 rfl (by decide) ?_
    refine r_geti (pc := 21) X dX2_colonel_21 fl_X2_101 oc_1 rfl (fun x5 => ?_)
    refine r_istore_n (pc := 24) (lv' := [(2, .int _), (0, .ref _), (1, .int _)]) X dX2_colonel_24 rfl (by decide) rfl ?_
    refine r_aload_n (pc := 25) X dX2_colonel_25 1 rfl rfl ?_
    refine r_geto (pc := 26) 1 X dX2_colonel_26 fl_X2_12 rfl (by decide) ?_
    refine r_iload_n (pc := 29) X dX2_colonel_29 2 rfl rfl ?_
    refine r_puti (pc := 30) X dX2_colonel_30 fl_X2_101 fw_0_13 oc_1 rfl (fun σ6 => ?_)
    refine r_iload_n (pc := 33) X dX2_colonel_33 0 rfl rfl ?_
    exact r_iret (pc := 34) X Z dX2_colonel_34 rfl
  · refine r_aload_n (pc := 7) X dX2_colonel_7 0 rfl rfl ?_
    refine r_iconst (pc := 8) X dX2_colonel_8 kc_m1 ?_
    refine r_callvI (pc := 9) X dX2_colonel_9 cf_X2_refuse ml_X2_60 (rf rfl rfl) hy oc_0.1 hc_2 (fun b hb => m_X2_refuse hb) rfl rfl (Nat.le_of_ble_eq_true rfl) (fun x7 σ8 => ?_)
    exact r_iret (pc := 12) X Z dX2_colonel_12 rfl

set_option maxRecDepth 100000 in
theorem s_X2_hours_j33 {y : LY} {l : Launch} {E : ET} (X : CX y l E cX2_hours 2 RX2 (rmd 5)) (Z : ZX E (some .int)) (hy : y.1 ≤ (eS E).heap.size)     (σ : ST) : WW y l E 2 (fun a => QM y E (xI a)) 33 [(0, .ref (ad y 0))] [] σ (T_X2_hours_j33   σ) := by
  unfold T_X2_hours_j33
  refine r_aload_n (pc := 33) X dX2_hours_33 0 rfl rfl ?_
  refine r_bipush (pc := 34) X dX2_hours_34 kb_m6 ?_
  refine r_callvI (pc := 36) X dX2_hours_36 cf_X2_refuse ml_X2_60 (rf rfl rfl) hy oc_0.1 hc_2 (fun b hb => m_X2_refuse hb) rfl rfl (Nat.le_of_ble_eq_true rfl) (fun x1 σ2 => ?_)
  exact r_iret (pc := 39) X Z dX2_hours_39 rfl

set_option maxRecDepth 100000 in
theorem m_X2_hours {y : LY} {l : Launch}  {a0 : Int32} {σ : ST} {a : (Int32 × ST)} (h : T_X2_hours a0 σ = some a) : MU y l yX2_hours cX2_hours 2 (some .int) (rmd 5) [.ref (ad y 0), .int a0] σ (xI a) := by
  refine MU.of (φ := xI) h (by decide +kernel) rfl (fun E X Z hy => ?_)
  have X : CX y l E cX2_hours 2 RX2 (rmd 5) := X
  show WW y l E 2 _ 0 [(0, .ref (ad y 0)), (1, .int a0)] [] σ (T_X2_hours a0 σ)
  unfold T_X2_hours
  refine r_iload_n (pc := 0) X dX2_hours_0 1 rfl rfl ?_
  refine r_iconst (pc := 1) X dX2_hours_1 kc_1 ?_
  refine r_icmp_ge (pc := 2) (tgt := 12) X dX2_hours_2 (by decide) ?_ ?_
  · refine r_iload_n (pc := 12) X dX2_hours_12 1 rfl rfl ?_
    refine r_bipush (pc := 13) X dX2_hours_13 kb_60 ?_
    refine r_icmp_gt (pc := 15) (tgt := 33) X dX2_hours_15 (by decide) ?_ ?_
    · refine r_sub [0] rfl ?_
      exact s_X2_hours_j33 X Z hy σ
    · refine r_aload_n (pc := 18) X dX2_hours_18 0 rfl rfl ?_
      refine r_geto (pc := 19) 1 X dX2_hours_19 fl_X2_12 rfl (by decide) ?_
      refine r_geti (pc := 22) X dX2_hours_22 fl_X2_104 oc_1 rfl (fun x1 => ?_)
      refine r_iload_n (pc := 25) X dX2_hours_25 1 rfl rfl ?_
      refine r_iadd (pc := 26) X dX2_hours_26 ?_
      refine r_sipush (pc := 27) X dX2_hours_27 ks_999 ?_
      refine r_icmp_le (pc := 30) (tgt := 40) X dX2_hours_30 (by decide) ?_ ?_
      · refine r_aload_n (pc := 40) X dX2_hours_40 0 rfl rfl ?_
        refine r_callvV (pc := 41) X dX2_hours_41 cf_X2_forgetPast ml_X2_78 (rf rfl rfl) hy oc_0.1 hc_2 (fun b hb => m_X2_forgetPast hb) rfl rfl (Nat.le_of_ble_eq_true rfl) (fun σ3 => ?_)
        refine r_aload_n (pc := 44) X dX2_hours_44 0 rfl rfl ?_
        refine r_geto (pc := 45) 1 X dX2_hours_45 fl_X2_12 rfl (by decide) ?_
        refine r_callvV (pc := 48) X dX2_hours_48 cf_X0_startTallies ml_X2_178 (rf rfl rfl) hy oc_1.1 (hc_0 (by decide)) (fun b hb => m_X0_startTallies (by decide) hb) rfl rfl (Nat.le_of_ble_eq_true rfl) (fun σ5 => ?_)
        refine r_aload_n (pc := 51) X dX2_hours_51 0 rfl rfl ?_
        refine r_geto (pc := 52) 1 X dX2_hours_52 fl_X2_12 rfl (by decide) ?_
        refine r_iload_n (pc := 55) X dX2_hours_55 1 rfl rfl ?_
        refine r_callvV (pc := 56) X dX2_hours_56 cf_X0_goHours ml_X2_107 (rf rfl rfl) hy oc_1.1 (hc_0 (by decide)) (fun b hb => m_X0_goHours (by decide) hb) rfl rfl (Nat.le_of_ble_eq_true rfl) (fun σ7 => ?_)
        refine r_aload_n (pc := 59) X dX2_hours_59 0 rfl rfl ?_
        refine r_geto (pc := 60) 1 X dX2_hours_60 fl_X2_12 rfl (by decide) ?_
        refine r_geti (pc := 63) X dX2_hours_63 fl_X2_181 oc_1 rfl (fun x8 => ?_)
        exact r_iret (pc := 66) X Z dX2_hours_66 rfl
      · refine r_sub [0] rfl ?_
        exact s_X2_hours_j33 X Z hy σ
  · refine r_aload_n (pc := 5) X dX2_hours_5 0 rfl rfl ?_
    refine r_bipush (pc := 6) X dX2_hours_6 kb_m4 ?_
    refine r_callvI (pc := 8) X dX2_hours_8 cf_X2_refuse ml_X2_60 (rf rfl rfl) hy oc_0.1 hc_2 (fun b hb => m_X2_refuse hb) rfl rfl (Nat.le_of_ble_eq_true rfl) (fun x9 σ10 => ?_)
    exact r_iret (pc := 11) X Z dX2_hours_11 rfl

set_option maxRecDepth 100000 in
theorem m_X2_back {y : LY} {l : Launch}   {σ : ST} {a : (Int32 × ST)} (h : T_X2_back σ = some a) : MU y l yX2_back cX2_back 1 (some .int) (rmd 2) [.ref (ad y 0)] σ (xI a) := by
  refine MU.of (φ := xI) h (by decide +kernel) rfl (fun E X Z hy => ?_)
  have X : CX y l E cX2_back 1 RX2 (rmd 2) := X
  show WW y l E 1 _ 0 [(0, .ref (ad y 0))] [] σ (T_X2_back σ)
  unfold T_X2_back
  refine r_aload_n (pc := 0) X dX2_back_0 0 rfl rfl ?_
  refine r_geti (pc := 1) X dX2_back_1 fl_X2_30 oc_0 rfl (fun x1 => ?_)
  refine r_if_gt (pc := 4) (tgt := 14) X dX2_back_4 (by decide) ?_ ?_
  · refine r_aload_n (pc := 14) X dX2_back_14 0 rfl rfl ?_
    refine r_dup (pc := 15) X dX2_back_15 rfl ?_
    refine r_geti (pc := 16) X dX2_back_16 fl_X2_30 oc_0 rfl (fun x2 => ?_)
    refine r_iconst (pc := 19) X dX2_back_19 kc_1 ?_
    refine r_isub (pc := 20) X dX2_back_20 ?_
    refine r_puti (pc := 21) X dX2_back_21 fl_X2_30 fw_2_5 oc_0 rfl (fun σ3 => ?_)
    refine r_aload_n (pc := 24) X dX2_back_24 0 rfl rfl ?_
    refine r_geto (pc := 25) 1 X dX2_back_25 fl_X2_12 rfl (by decide) ?_
    refine r_aload_n (pc := 28) X dX2_back_28 0 rfl rfl ?_
    refine r_getp (pc := 29) X dX2_back_29 fl_X2_26 ?_
    refine r_aload_n (pc := 32) X dX2_back_32 0 rfl rfl ?_
    refine r_geti (pc := 33) X dX2_back_33 fl_X2_30 oc_0 rfl (fun x4 => ?_)
    refine r_aald (pc := 36) X dX2_back_36 (fun w5 hw5 => ?_)
    refine r_callvV (pc := 37) X dX2_back_37 cf_X0_copyFrom ml_X2_74 (rf rfl rfl) hy oc_1.1 (hc_0 (by decide)) (fun b hb => m_X0_copyFrom (by decide) hw5 hb) rfl rfl (Nat.le_of_ble_eq_true rfl) (fun σ7 => ?_)
    refine r_aload_n (pc := 40) X dX2_back_40 0 rfl rfl ?_
    refine r_geti (pc := 41) X dX2_back_41 fl_X2_30 oc_0 rfl (fun x8 => ?_)
    exact r_iret (pc := 44) X Z dX2_back_44 rfl
  · refine r_aload_n (pc := 7) X dX2_back_7 0 rfl rfl ?_
    refine r_bipush (pc := 8) X dX2_back_8 kb_m3 ?_
    refine r_callvI (pc := 10) X dX2_back_10 cf_X2_refuse ml_X2_60 (rf rfl rfl) hy oc_0.1 hc_2 (fun b hb => m_X2_refuse hb) rfl rfl (Nat.le_of_ble_eq_true rfl) (fun x9 σ10 => ?_)
    exact r_iret (pc := 13) X Z dX2_back_13 rfl

set_option maxRecDepth 100000 in
theorem m_X2_image {y : LY} {l : Launch}   {σ : ST} {a : (Int32 × ST)} (h : T_X2_image σ = some a) : MU y l yX2_image cX2_image 1 (some .int) (rmd 2) [.ref (ad y 0)] σ (xI a) := by
  refine MU.of (φ := xI) h (by decide +kernel) rfl (fun E X Z hy => ?_)
  have X : CX y l E cX2_image 1 RX2 (rmd 2) := X
  show WW y l E 1 _ 0 [(0, .ref (ad y 0))] [] σ (T_X2_image σ)
  unfold T_X2_image
  refine r_aload_n (pc := 0) X dX2_image_0 0 rfl rfl ?_
  refine r_geto (pc := 1) 3 X dX2_image_1 fl_X2_19 rfl (by decide) ?_
  refine r_aload_n (pc := 4) X dX2_image_4 0 rfl rfl ?_
  refine r_geto (pc := 5) 1 X dX2_image_5 fl_X2_12 rfl (by decide) ?_
  refine r_callvV (pc := 8) X dX2_image_8 cf_X0_copyFrom ml_X2_74 (rf rfl rfl) hy oc_3.1 (hc_0 (by decide)) (fun b hb => m_X0_copyFrom (by decide) (by decide) hb) rfl rfl (Nat.le_of_ble_eq_true rfl) (fun σ2 => ?_)
  refine r_aload_n (pc := 11) X dX2_image_11 0 rfl rfl ?_
  refine r_iconst (pc := 12) X dX2_image_12 kc_1 ?_
  refine r_putz (pc := 13) X dX2_image_13 fl_X2_22 fw_2_3 oc_0 rfl (fun σ3 => ?_)
  refine r_aload_n (pc := 16) X dX2_image_16 0 rfl rfl ?_
  refine r_geto (pc := 17) 1 X dX2_image_17 fl_X2_12 rfl (by decide) ?_
  refine r_geti (pc := 20) X dX2_image_20 fl_X2_104 oc_1 rfl (fun x4 => ?_)
  exact r_iret (pc := 23) X Z dX2_image_23 rfl

set_option maxRecDepth 100000 in
theorem m_X2_restore {y : LY} {l : Launch}   {σ : ST} {a : (Int32 × ST)} (h : T_X2_restore σ = some a) : MU y l yX2_restore cX2_restore 1 (some .int) (rmd 2) [.ref (ad y 0)] σ (xI a) := by
  refine MU.of (φ := xI) h (by decide +kernel) rfl (fun E X Z hy => ?_)
  have X : CX y l E cX2_restore 1 RX2 (rmd 2) := X
  show WW y l E 1 _ 0 [(0, .ref (ad y 0))] [] σ (T_X2_restore σ)
  unfold T_X2_restore
  refine r_aload_n (pc := 0) X dX2_restore_0 0 rfl rfl ?_
  refine r_geti (pc := 1) X dX2_restore_1 fl_X2_22 oc_0 rfl (fun x1 => ?_)
  refine r_if_ne (pc := 4) (tgt := 14) X dX2_restore_4 (by decide) ?_ ?_
  · refine r_aload_n (pc := 14) X dX2_restore_14 0 rfl rfl ?_
    refine r_geto (pc := 15) 1 X dX2_restore_15 fl_X2_12 rfl (by decide) ?_
    refine r_aload_n (pc := 18) X dX2_restore_18 0 rfl rfl ?_
    refine r_geto (pc := 19) 3 X dX2_restore_19 fl_X2_19 rfl (by decide) ?_
    refine r_callvV (pc := 22) X dX2_restore_22 cf_X0_copyFrom ml_X2_74 (rf rfl rfl) hy oc_1.1 (hc_0 (by decide)) (fun b hb => m_X0_copyFrom (by decide) (by decide) hb) rfl rfl (Nat.le_of_ble_eq_true rfl) (fun σ3 => ?_)
    refine r_aload_n (pc := 25) X dX2_restore_25 0 rfl rfl ?_
    refine r_callvV (pc := 26) X dX2_restore_26 cf_X2_forgetPast ml_X2_78 (rf rfl rfl) hy oc_0.1 hc_2 (fun b hb => m_X2_forgetPast hb) rfl rfl (Nat.le_of_ble_eq_true rfl) (fun σ5 => ?_)
    refine r_aload_n (pc := 29) X dX2_restore_29 0 rfl rfl ?_
    refine r_geto (pc := 30) 1 X dX2_restore_30 fl_X2_12 rfl (by decide) ?_
    refine r_geti (pc := 33) X dX2_restore_33 fl_X2_104 oc_1 rfl (fun x6 => ?_)
    exact r_iret (pc := 36) X Z dX2_restore_36 rfl
  · refine r_aload_n (pc := 7) X dX2_restore_7 0 rfl rfl ?_
    refine r_bipush (pc := 8) X dX2_restore_8 kb_m3 ?_
    refine r_callvI (pc := 10) X dX2_restore_10 cf_X2_refuse ml_X2_60 (rf rfl rfl) hy oc_0.1 hc_2 (fun b hb => m_X2_refuse hb) rfl rfl (Nat.le_of_ble_eq_true rfl) (fun x7 σ8 => ?_)
    exact r_iret (pc := 13) X Z dX2_restore_13 rfl

set_option maxRecDepth 100000 in
theorem m_X2_wrongHours {y : LY} {l : Launch}  {a0 : Int32} {σ : ST} {a : Int32} (h : T_X2_wrongHours σ a0 = some a) : MU y l yX2_wrongHours cX2_wrongHours 1 (some .int) (rmd 0) [.int a0] σ (xp σ a) := by
  refine MU.of (φ := xp σ) h (by decide +kernel) rfl (fun E X Z hy => ?_)
  have X : CX y l E cX2_wrongHours 1 RX2 (rmd 0) := X
  show WW y l E 1 _ 0 [(0, .int a0)] [] σ (T_X2_wrongHours σ a0)
  unfold T_X2_wrongHours
  refine r_iload_n (pc := 0) X dX2_wrongHours_0 0 rfl rfl ?_
  refine r_if_ge (pc := 1) (tgt := 7) X dX2_wrongHours_1 (by decide) ?_ ?_
  · refine r_iload_n (pc := 7) X dX2_wrongHours_7 0 rfl rfl ?_
    refine r_bipush (pc := 8) X dX2_wrongHours_8 kb_60 ?_
    refine r_icmp_le (pc := 10) (tgt := 18) X dX2_wrongHours_10 (by decide) ?_ ?_
    · refine r_iconst (pc := 18) X dX2_wrongHours_18 kc_0 ?_
      exact r_iret (pc := 19) X Z dX2_wrongHours_19 rfl
    · refine r_bipush (pc := 13) X dX2_wrongHours_13 kb_m6 ?_
      refine r_goto (pc := 15) (tgt := 19) X dX2_wrongHours_15 (by decide) ?_
      exact r_iret (pc := 19) X Z dX2_wrongHours_19 rfl
  · refine r_bipush (pc := 4) X dX2_wrongHours_4 kb_m4 ?_
    exact r_iret (pc := 6) X Z dX2_wrongHours_6 rfl

set_option maxRecDepth 100000 in
theorem s_X2_behind_j44 {y : LY} {l : Launch} {E : ET} (X : CX y l E cX2_behind 5 RX2 (rmd 5)) (Z : ZX E (some .int)) (hy : y.1 ≤ (eS E).heap.size)     (σ : ST) : WW y l E 5 (fun a => QM y E (xI a)) 44 [(0, .ref (ad y 0))] [] σ (T_X2_behind_j44   σ) := by
  unfold T_X2_behind_j44
  refine r_aload_n (pc := 44) X dX2_behind_44 0 rfl rfl ?_
  refine r_bipush (pc := 45) X dX2_behind_45 kb_m2 ?_
  refine r_callvI (pc := 47) X dX2_behind_47 cf_X2_refuse ml_X2_60 (rf rfl rfl) hy oc_0.1 hc_2 (fun b hb => m_X2_refuse hb) rfl rfl (Nat.le_of_ble_eq_true rfl) (fun x1 σ2 => ?_)
  exact r_iret (pc := 50) X Z dX2_behind_50 rfl

set_option maxRecDepth 100000 in
theorem m_X2_behind {y : LY} {l : Launch}  {a0 : Int32} {a1 : Int32} {a2 : Int32} {σ : ST} {a : (Int32 × ST)} (h : T_X2_behind a0 a1 a2 σ = some a) : MU y l yX2_behind cX2_behind 5 (some .int) (rmd 5) [.ref (ad y 0), .int a0, .int a1, .int a2] σ (xI a) := by
  refine MU.of (φ := xI) h (by decide +kernel) rfl (fun E X Z hy => ?_)
  have X : CX y l E cX2_behind 5 RX2 (rmd 5) := X
  show WW y l E 5 _ 0 [(0, .ref (ad y 0)), (1, .int a0), (2, .int a1), (3, .int a2)] [] σ (T_X2_behind a0 a1 a2 σ)
  unfold T_X2_behind
  refine r_aload_n (pc := 0) X dX2_behind_0 0 rfl rfl ?_
  refine r_geto (pc := 1) 1 X dX2_behind_1 fl_X2_12 rfl (by decide) ?_
  refine r_iload_n (pc := 4) X dX2_behind_4 1 rfl rfl ?_
  refine r_callvp (pc := 5) X dX2_behind_5 cf_X0_hasBearer ml_X2_135 (rf rfl rfl) hy oc_1.1 (hc_0 (by decide)) (fun b hb => m_X0_hasBearer (by decide) hb) rfl rfl (Nat.le_of_ble_eq_true rfl) (fun x1 => ?_)
  refine r_if_ne (pc := 8) (tgt := 17) X dX2_behind_8 (by decide) ?_ ?_
  · refine r_iload_n (pc := 17) X dX2_behind_17 2 rfl rfl ?_
    refine r_callsp (pc := 18) X dX2_behind_18 cf_X2_wrongHours ml_X2_184 (rf rfl rfl) hy (fun b hb => m_X2_wrongHours hb) rfl rfl (Nat.le_of_ble_eq_true rfl) (fun x3 => ?_)
    refine r_istore (pc := 21) (lv' := [(4, .int _), (0, .ref _), (1, .int _), (2, .int _), (3, .int _)]) X dX2_behind_21 (by decide) rfl ?_
    refine r_iload (pc := 23) X dX2_behind_23 0 rfl ?_
    refine r_if_eq (pc := 25) (tgt := 35) X dX2_behind_25 (by decide) ?_ ?_
    · refine r_iload_n (pc := 35) X dX2_behind_35 4 rfl rfl ?_
      refine r_if_lt (pc := 36) (tgt := 44) X dX2_behind_36 (by decide) ?_ ?_
      · refine r_sub [1] rfl ?_
        exact s_X2_behind_j44 X Z hy σ
      · refine r_iload_n (pc := 39) X dX2_behind_39 4 rfl rfl ?_
        refine r_iconst (pc := 40) X dX2_behind_40 kc_3 ?_
        refine r_icmp_le (pc := 41) (tgt := 51) X dX2_behind_41 (by decide) ?_ ?_
        · refine r_aload_n (pc := 51) X dX2_behind_51 1 rfl rfl ?_
          refine r_callvV (pc := 52) X dX2_behind_52 cf_X2_think ml_X2_67 (rf rfl rfl) hy oc_0.1 hc_2 (fun b hb => m_X2_think hb) rfl rfl (Nat.le_of_ble_eq_true rfl) (fun σ6 => ?_)
          refine r_aload_n (pc := 55) X dX2_behind_55 1 rfl rfl ?_
          refine r_geto (pc := 56) 2 X dX2_behind_56 fl_X2_16 rfl (by decide) ?_
          refine r_iload_n (pc := 59) X dX2_behind_59 3 rfl rfl ?_
          refine r_callvV (pc := 60) X dX2_behind_60 cf_X0_goHours ml_X2_107 (rf rfl rfl) hy oc_2.1 (hc_0 (by decide)) (fun b hb => m_X0_goHours (by decide) hb) rfl rfl (Nat.le_of_ble_eq_true rfl) (fun σ8 => ?_)
          refine r_iload_n (pc := 63) X dX2_behind_63 4 rfl rfl ?_
          refine r_if_ne (pc := 64) (tgt := 77) X dX2_behind_64 (by decide) ?_ ?_
          · refine r_iload_n (pc := 77) X dX2_behind_77 4 rfl rfl ?_
            refine r_iconst (pc := 78) X dX2_behind_78 kc_1 ?_
            refine r_icmp_ne (pc := 79) (tgt := 92) X dX2_behind_79 (by decide) ?_ ?_
            · refine r_iload_n (pc := 92) X dX2_behind_92 4 rfl rfl ?_
              refine r_iconst (pc := 93) X dX2_behind_93 kc_2 ?_
              refine r_icmp_ne (pc := 94) (tgt := 109) X dX2_behind_94 (by decide) ?_ ?_
              · refine r_aload_n (pc := 109) X dX2_behind_109 1 rfl rfl ?_
                refine r_geto (pc := 110) 2 X dX2_behind_110 fl_X2_16 rfl (by decide) ?_
                refine r_aload_n (pc := 113) X dX2_behind_113 1 rfl rfl ?_
                refine r_geto (pc := 114) 2 X dX2_behind_114 fl_X2_16 rfl (by decide) ?_
                refine r_geta (pc := 117) X dX2_behind_117 fl_X2_147 oc_2 (by decide) ?_
                refine r_iload_n (pc := 120) X dX2_behind_120 2 rfl rfl ?_
                refine r_iald (pc := 121) X dX2_behind_121 ar_2_11 (fun x9 => ?_)
                refine r_callvp (pc := 122) X dX2_behind_122 cf_X0_pullOf ml_X2_132 (rf rfl rfl) hy oc_2.1 (hc_0 (by decide)) (fun b hb => m_X0_pullOf (by decide) hb) rfl rfl (Nat.le_of_ble_eq_true rfl) (fun x10 => ?_)
                exact r_iret (pc := 125) X Z dX2_behind_125 rfl
              · refine r_aload_n (pc := 97) X dX2_behind_97 1 rfl rfl ?_
                refine r_geto (pc := 98) 2 X dX2_behind_98 fl_X2_16 rfl (by decide) ?_
                refine r_geta (pc := 101) X dX2_behind_101 fl_X2_187 oc_2 (by decide) ?_
                refine r_iload_n (pc := 104) X dX2_behind_104 2 rfl rfl ?_
                refine r_iald (pc := 105) X dX2_behind_105 ar_2_15 (fun x12 => ?_)
                refine r_goto (pc := 106) (tgt := 125) X dX2_behind_106 (by decide) ?_
                exact r_iret (pc := 125) X Z dX2_behind_125 rfl
            · refine r_aload_n (pc := 82) X dX2_behind_82 1 rfl rfl ?_
              refine r_geto (pc := 83) 2 X dX2_behind_83 fl_X2_16 rfl (by decide) ?_
              refine r_geta (pc := 86) X dX2_behind_86 fl_X2_150 oc_2 (by decide) ?_
              refine r_iload_n (pc := 89) X dX2_behind_89 2 rfl rfl ?_
              refine r_iald (pc := 90) X dX2_behind_90 ar_2_12 (fun x13 => ?_)
              exact r_iret (pc := 91) X Z dX2_behind_91 rfl
          · refine r_aload_n (pc := 67) X dX2_behind_67 1 rfl rfl ?_
            refine r_geto (pc := 68) 2 X dX2_behind_68 fl_X2_16 rfl (by decide) ?_
            refine r_geta (pc := 71) X dX2_behind_71 fl_X2_144 oc_2 (by decide) ?_
            refine r_iload_n (pc := 74) X dX2_behind_74 2 rfl rfl ?_
            refine r_iald (pc := 75) X dX2_behind_75 ar_2_10 (fun x14 => ?_)
            exact r_iret (pc := 76) X Z dX2_behind_76 rfl
        · refine r_sub [1] rfl ?_
          exact s_X2_behind_j44 X Z hy σ
    · refine r_aload_n (pc := 28) X dX2_behind_28 1 rfl rfl ?_
      refine r_iload (pc := 29) X dX2_behind_29 0 rfl ?_
      refine r_callvI (pc := 31) X dX2_behind_31 cf_X2_refuse ml_X2_60 (rf rfl rfl) hy oc_0.1 hc_2 (fun b hb => m_X2_refuse hb) rfl rfl (Nat.le_of_ble_eq_true rfl) (fun x15 σ16 => ?_)
      exact r_iret (pc := 34) X Z dX2_behind_34 rfl
  · refine r_aload_n (pc := 11) X dX2_behind_11 0 rfl rfl ?_
    refine r_iconst (pc := 12) X dX2_behind_12 kc_m1 ?_
    refine r_callvI (pc := 13) X dX2_behind_13 cf_X2_refuse ml_X2_60 (rf rfl rfl) hy oc_0.1 hc_2 (fun b hb => m_X2_refuse hb) rfl rfl (Nat.le_of_ble_eq_true rfl) (fun x17 σ18 => ?_)
    exact r_iret (pc := 16) X Z dX2_behind_16 rfl

set_option maxRecDepth 100000 in
theorem m_X2_areTwo {y : LY} {l : Launch}  {a0 : Int32} {a1 : Int32} {σ : ST} {a : Int32} (h : T_X2_areTwo σ a0 a1 = some a) : MU y l yX2_areTwo cX2_areTwo 3 (some .boolean) (rmd 1) [.ref (ad y 0), .int a0, .int a1] σ (xp σ a) := by
  refine MU.of (φ := xp σ) h (by decide +kernel) rfl (fun E X Z hy => ?_)
  have X : CX y l E cX2_areTwo 3 RX2 (rmd 1) := X
  show WW y l E 3 _ 0 [(0, .ref (ad y 0)), (1, .int a0), (2, .int a1)] [] σ (T_X2_areTwo σ a0 a1)
  unfold T_X2_areTwo
  refine r_aload_n (pc := 0) X dX2_areTwo_0 0 rfl rfl ?_
  refine r_geto (pc := 1) 1 X dX2_areTwo_1 fl_X2_12 rfl (by decide) ?_
  refine r_iload_n (pc := 4) X dX2_areTwo_4 1 rfl rfl ?_
  refine r_callvp (pc := 5) X dX2_areTwo_5 cf_X0_hasBearer ml_X2_135 (rf rfl rfl) hy oc_1.1 (hc_0 (by decide)) (fun b hb => m_X0_hasBearer (by decide) hb) rfl rfl (Nat.le_of_ble_eq_true rfl) (fun x1 => ?_)
  refine r_if_eq (pc := 8) (tgt := 31) X dX2_areTwo_8 (by decide) ?_ ?_
  · refine r_iconst (pc := 31) X dX2_areTwo_31 kc_0 ?_
    exact r_zret (pc := 32) X Z dX2_areTwo_32 rfl (Or.inl rfl)
  · refine r_aload_n (pc := 11) X dX2_areTwo_11 0 rfl rfl ?_
    refine r_geto (pc := 12) 1 X dX2_areTwo_12 fl_X2_12 rfl (by decide) ?_
    refine r_iload_n (pc := 15) X dX2_areTwo_15 2 rfl rfl ?_
    refine r_callvp (pc := 16) X dX2_areTwo_16 cf_X0_hasBearer ml_X2_135 (rf rfl rfl) hy oc_1.1 (hc_0 (by decide)) (fun b hb => m_X0_hasBearer (by decide) hb) rfl rfl (Nat.le_of_ble_eq_true rfl) (fun x3 => ?_)
    refine r_if_eq (pc := 19) (tgt := 31) X dX2_areTwo_19 (by decide) ?_ ?_
    · refine r_iconst (pc := 31) X dX2_areTwo_31 kc_0 ?_
      exact r_zret (pc := 32) X Z dX2_areTwo_32 rfl (Or.inl rfl)
    · refine r_iload_n (pc := 22) X dX2_areTwo_22 1 rfl rfl ?_
      refine r_iload_n (pc := 23) X dX2_areTwo_23 2 rfl rfl ?_
      refine r_icmp_eq (pc := 24) (tgt := 31) X dX2_areTwo_24 (by decide) ?_ ?_
      · refine r_iconst (pc := 31) X dX2_areTwo_31 kc_0 ?_
        exact r_zret (pc := 32) X Z dX2_areTwo_32 rfl (Or.inl rfl)
      · refine r_iconst (pc := 27) X dX2_areTwo_27 kc_1 ?_
        refine r_goto (pc := 28) (tgt := 32) X dX2_areTwo_28 (by decide) ?_
        exact r_zret (pc := 32) X Z dX2_areTwo_32 rfl (Or.inr rfl)

set_option maxRecDepth 100000 in
theorem s_X2_firstMeeting_L3 {y : LY} {l : Launch} {E : ET} (X : CX y l E cX2_firstMeeting 5 RX2 (rmd 5)) (Z : ZX E (some .int)) (hy : y.1 ≤ (eS E).heap.size)     (n : Nat) : ∀ (v1 : Int32) (v2 : Int32) (v3 : Int32) (v4 : Int32) (σ : ST), WW y l E 5 (fun a => QM y E (xI a)) 3 [(0, .ref (ad y 0)), (1, .int v1), (2, .int v2), (3, .int v3), (4, .int v4)] [] σ (T_X2_firstMeeting_L3  n v1 v2 v3 v4 σ) := by
  induction n with
  | zero => intros; exact r_none rfl
  | succ n ih =>
    intro v1 v2 v3 v4 σ
    unfold T_X2_firstMeeting_L3
    refine r_iload (pc := 3) X dX2_firstMeeting_3 4 rfl ?_
    refine r_iload_n (pc := 5) X dX2_firstMeeting_5 3 rfl rfl ?_
    refine r_icmp_gt (pc := 6) (tgt := 47) X dX2_firstMeeting_6 (by decide) ?_ ?_
    · refine r_bipush (pc := 47) X dX2_firstMeeting_47 kb_61 ?_
      exact r_iret (pc := 49) X Z dX2_firstMeeting_49 rfl
    · refine r_aload_n (pc := 9) X dX2_firstMeeting_9 0 rfl rfl ?_
      refine r_geto (pc := 10) 2 X dX2_firstMeeting_10 fl_X2_16 rfl (by decide) ?_
      refine r_geta (pc := 13) X dX2_firstMeeting_13 fl_X2_144 oc_2 (by decide) ?_
      refine r_iload_n (pc := 16) X dX2_firstMeeting_16 1 rfl rfl ?_
      refine r_iald (pc := 17) X dX2_firstMeeting_17 ar_2_10 (fun x1 => ?_)
      refine r_aload_n (pc := 18) X dX2_firstMeeting_18 0 rfl rfl ?_
      refine r_geto (pc := 19) 2 X dX2_firstMeeting_19 fl_X2_16 rfl (by decide) ?_
      refine r_geta (pc := 22) X dX2_firstMeeting_22 fl_X2_144 oc_2 (by decide) ?_
      refine r_iload_n (pc := 25) X dX2_firstMeeting_25 2 rfl rfl ?_
      refine r_iald (pc := 26) X dX2_firstMeeting_26 ar_2_10 (fun x2 => ?_)
      refine r_icmp_ne (pc := 27) (tgt := 33) X dX2_firstMeeting_27 (by decide) ?_ ?_
      · refine r_aload_n (pc := 33) X dX2_firstMeeting_33 0 rfl rfl ?_
        refine r_geto (pc := 34) 2 X dX2_firstMeeting_34 fl_X2_16 rfl (by decide) ?_
        refine r_iconst (pc := 37) X dX2_firstMeeting_37 kc_1 ?_
        refine r_callvV (pc := 38) X dX2_firstMeeting_38 cf_X0_goHours ml_X2_107 (rf rfl rfl) hy oc_2.1 (hc_0 (by decide)) (fun b hb => m_X0_goHours (by decide) hb) rfl rfl (Nat.le_of_ble_eq_true rfl) (fun σ4 => ?_)
        refine r_iinc (pc := 41) (lv' := [(0, .ref _), (1, .int _), (2, .int _), (3, .int _)]) X dX2_firstMeeting_41 4 rfl (congrArg (fun z => v4 + z) kc_1) (by decide) rfl (fun x5 => ?_)
        refine r_goto (pc := 44) (tgt := 3) X dX2_firstMeeting_44 (by decide) ?_
        refine r_sub [1, 2, 3, 4, 0] rfl ?_
        exact ih v1 v2 v3 x5 σ4
      · refine r_iload (pc := 30) X dX2_firstMeeting_30 4 rfl ?_
        exact r_iret (pc := 32) X Z dX2_firstMeeting_32 rfl

set_option maxRecDepth 100000 in
theorem m_X2_firstMeeting {y : LY} {l : Launch}  {a0 : Int32} {a1 : Int32} {a2 : Int32} {σ : ST} {a : (Int32 × ST)} (h : T_X2_firstMeeting a0 a1 a2 σ = some a) : MU y l yX2_firstMeeting cX2_firstMeeting 5 (some .int) (rmd 5) [.ref (ad y 0), .int a0, .int a1, .int a2] σ (xI a) := by
  refine MU.of (φ := xI) h (by decide +kernel) rfl (fun E X Z hy => ?_)
  have X : CX y l E cX2_firstMeeting 5 RX2 (rmd 5) := X
  show WW y l E 5 _ 0 [(0, .ref (ad y 0)), (1, .int a0), (2, .int a1), (3, .int a2)] [] σ (T_X2_firstMeeting a0 a1 a2 σ)
  unfold T_X2_firstMeeting
  refine r_iconst (pc := 0) X dX2_firstMeeting_0 kc_0 ?_
  refine r_istore (pc := 1) (lv' := [(4, .int _), (0, .ref _), (1, .int _), (2, .int _), (3, .int _)]) X dX2_firstMeeting_1 (by decide) rfl ?_
  refine r_sub [1, 2, 3, 4, 0] rfl ?_
  exact s_X2_firstMeeting_L3 X Z hy FU a0 a1 a2 0 σ

set_option maxRecDepth 100000 in
theorem m_X2_orNone {y : LY} {l : Launch}  {a0 : Int32} {σ : ST} {a : Int32} (h : T_X2_orNone σ a0 = some a) : MU y l yX2_orNone cX2_orNone 1 (some .int) (rmd 0) [.int a0] σ (xp σ a) := by
  refine MU.of (φ := xp σ) h (by decide +kernel) rfl (fun E X Z hy => ?_)
  have X : CX y l E cX2_orNone 1 RX2 (rmd 0) := X
  show WW y l E 1 _ 0 [(0, .int a0)] [] σ (T_X2_orNone σ a0)
  unfold T_X2_orNone
  refine r_iload_n (pc := 0) X dX2_orNone_0 0 rfl rfl ?_
  refine r_bipush (pc := 1) X dX2_orNone_1 kb_60 ?_
  refine r_icmp_le (pc := 3) (tgt := 11) X dX2_orNone_3 (by decide) ?_ ?_
  · refine r_iload_n (pc := 11) X dX2_orNone_11 0 rfl rfl ?_
    exact r_iret (pc := 12) X Z dX2_orNone_12 rfl
  · refine r_bipush (pc := 6) X dX2_orNone_6 kb_m9 ?_
    refine r_goto (pc := 8) (tgt := 12) X dX2_orNone_8 (by decide) ?_
    exact r_iret (pc := 12) X Z dX2_orNone_12 rfl

set_option maxRecDepth 100000 in
theorem m_X2_meet {y : LY} {l : Launch}  {a0 : Int32} {a1 : Int32} {σ : ST} {a : (Int32 × ST)} (h : T_X2_meet a0 a1 σ = some a) : MU y l yX2_meet cX2_meet 3 (some .int) (rmd 6) [.ref (ad y 0), .int a0, .int a1] σ (xI a) := by
  refine MU.of (φ := xI) h (by decide +kernel) rfl (fun E X Z hy => ?_)
  have X : CX y l E cX2_meet 3 RX2 (rmd 6) := X
  show WW y l E 3 _ 0 [(0, .ref (ad y 0)), (1, .int a0), (2, .int a1)] [] σ (T_X2_meet a0 a1 σ)
  unfold T_X2_meet
  refine r_aload_n (pc := 0) X dX2_meet_0 0 rfl rfl ?_
  refine r_iload_n (pc := 1) X dX2_meet_1 1 rfl rfl ?_
  refine r_iload_n (pc := 2) X dX2_meet_2 2 rfl rfl ?_
  refine r_callvp (pc := 3) X dX2_meet_3 cf_X2_areTwo ml_X2_190 (rf rfl rfl) hy oc_0.1 hc_2 (fun b hb => m_X2_areTwo hb) rfl rfl (Nat.le_of_ble_eq_true rfl) (fun x1 => ?_)
  refine r_if_ne (pc := 6) (tgt := 15) X dX2_meet_6 (by decide) ?_ ?_
  · refine r_aload_n (pc := 15) X dX2_meet_15 0 rfl rfl ?_
    refine r_callvV (pc := 16) X dX2_meet_16 cf_X2_think ml_X2_67 (rf rfl rfl) hy oc_0.1 hc_2 (fun b hb => m_X2_think hb) rfl rfl (Nat.le_of_ble_eq_true rfl) (fun σ4 => ?_)
    refine r_aload_n (pc := 19) X dX2_meet_19 0 rfl rfl ?_
    refine r_iload_n (pc := 20) X dX2_meet_20 1 rfl rfl ?_
    refine r_iload_n (pc := 21) X dX2_meet_21 2 rfl rfl ?_
    refine r_bipush (pc := 22) X dX2_meet_22 kb_60 ?_
    refine r_callvI (pc := 24) X dX2_meet_24 cf_X2_firstMeeting ml_X2_193 (rf rfl rfl) hy oc_0.1 hc_2 (fun b hb => m_X2_firstMeeting hb) rfl rfl (Nat.le_of_ble_eq_true rfl) (fun x5 σ6 => ?_)
    refine r_callsp (pc := 27) X dX2_meet_27 cf_X2_orNone ml_X2_196 (rf rfl rfl) hy (fun b hb => m_X2_orNone hb) rfl rfl (Nat.le_of_ble_eq_true rfl) (fun x7 => ?_)
    exact r_iret (pc := 30) X Z dX2_meet_30 rfl
  · refine r_aload_n (pc := 9) X dX2_meet_9 0 rfl rfl ?_
    refine r_iconst (pc := 10) X dX2_meet_10 kc_m1 ?_
    refine r_callvI (pc := 11) X dX2_meet_11 cf_X2_refuse ml_X2_60 (rf rfl rfl) hy oc_0.1 hc_2 (fun b hb => m_X2_refuse hb) rfl rfl (Nat.le_of_ble_eq_true rfl) (fun x9 σ10 => ?_)
    exact r_iret (pc := 14) X Z dX2_meet_14 rfl

set_option maxRecDepth 100000 in
theorem m_X2_wrongHoursOrWhat {y : LY} {l : Launch}  {a0 : Int32} {a1 : Int32} {a2 : Int32} {σ : ST} {a : Int32} (h : T_X2_wrongHoursOrWhat σ a0 a1 a2 = some a) : MU y l yX2_wrongHoursOrWhat cX2_wrongHoursOrWhat 4 (some .int) (rmd 1) [.int a0, .int a1, .int a2] σ (xp σ a) := by
  refine MU.of (φ := xp σ) h (by decide +kernel) rfl (fun E X Z hy => ?_)
  have X : CX y l E cX2_wrongHoursOrWhat 4 RX2 (rmd 1) := X
  show WW y l E 4 _ 0 [(0, .int a0), (1, .int a1), (2, .int a2)] [] σ (T_X2_wrongHoursOrWhat σ a0 a1 a2)
  unfold T_X2_wrongHoursOrWhat
  refine r_iload_n (pc := 0) X dX2_wrongHoursOrWhat_0 0 rfl rfl ?_
  refine r_callsp (pc := 1) X dX2_wrongHoursOrWhat_1 cf_X2_wrongHours ml_X2_184 (rf rfl rfl) hy (fun b hb => m_X2_wrongHours hb) rfl rfl (Nat.le_of_ble_eq_true rfl) (fun x1 => ?_)
  refine r_istore_n (pc := 4) (lv' := [(3, .int _), (0, .int _), (1, .int _), (2, .int _)]) X dX2_wrongHoursOrWhat_4 rfl (by decide) rfl ?_
  refine r_iload_n (pc := 5) X dX2_wrongHoursOrWhat_5 0 rfl rfl ?_
  refine r_if_eq (pc := 6) (tgt := 11) X dX2_wrongHoursOrWhat_6 (by decide) ?_ ?_
  · refine r_iload_n (pc := 11) X dX2_wrongHoursOrWhat_11 2 rfl rfl ?_
    refine r_if_lt (pc := 12) (tgt := 20) X dX2_wrongHoursOrWhat_12 (by decide) ?_ ?_
    · refine r_bipush (pc := 20) X dX2_wrongHoursOrWhat_20 kb_m2 ?_
      refine r_goto (pc := 22) (tgt := 26) X dX2_wrongHoursOrWhat_22 (by decide) ?_
      exact r_iret (pc := 26) X Z dX2_wrongHoursOrWhat_26 rfl
    · refine r_iload_n (pc := 15) X dX2_wrongHoursOrWhat_15 2 rfl rfl ?_
      refine r_iload_n (pc := 16) X dX2_wrongHoursOrWhat_16 3 rfl rfl ?_
      refine r_icmp_le (pc := 17) (tgt := 25) X dX2_wrongHoursOrWhat_17 (by decide) ?_ ?_
      · refine r_iconst (pc := 25) X dX2_wrongHoursOrWhat_25 kc_0 ?_
        exact r_iret (pc := 26) X Z dX2_wrongHoursOrWhat_26 rfl
      · refine r_bipush (pc := 20) X dX2_wrongHoursOrWhat_20 kb_m2 ?_
        refine r_goto (pc := 22) (tgt := 26) X dX2_wrongHoursOrWhat_22 (by decide) ?_
        exact r_iret (pc := 26) X Z dX2_wrongHoursOrWhat_26 rfl
  · refine r_iload_n (pc := 9) X dX2_wrongHoursOrWhat_9 0 rfl rfl ?_
    exact r_iret (pc := 10) X Z dX2_wrongHoursOrWhat_10 rfl

set_option maxRecDepth 100000 in
theorem s_X2_startPlaceTally_L2 {y : LY} {l : Launch} {E : ET} (X : CX y l E cX2_startPlaceTally 2 RX2 (rmd 0)) (Z : ZX E none) (hy : y.1 ≤ (eS E).heap.size)     (n : Nat) : ∀ (v1 : Int32) (σ : ST), WW y l E 2 (fun a => QM y E (xV a)) 2 [(0, .ref (ad y 0)), (1, .int v1)] [] σ (T_X2_startPlaceTally_L2  n v1 σ) := by
  induction n with
  | zero => intros; exact r_none rfl
  | succ n ih =>
    intro v1 σ
    unfold T_X2_startPlaceTally_L2
    refine r_iload_n (pc := 2) X dX2_startPlaceTally_2 1 rfl rfl ?_
    refine r_bipush (pc := 3) X dX2_startPlaceTally_3 kb_10 ?_
    refine r_icmp_ge (pc := 5) (tgt := 21) X dX2_startPlaceTally_5 (by decide) ?_ ?_
    · exact r_vret (pc := 21) X Z dX2_startPlaceTally_21 rfl
    · refine r_aload_n (pc := 8) X dX2_startPlaceTally_8 0 rfl rfl ?_
      refine r_geta (pc := 9) X dX2_startPlaceTally_9 fl_X2_50 oc_0 (by decide) ?_
      refine r_iload_n (pc := 12) X dX2_startPlaceTally_12 1 rfl rfl ?_
      refine r_iconst (pc := 13) X dX2_startPlaceTally_13 kc_0 ?_
      refine r_iast (pc := 14) X dX2_startPlaceTally_14 ar_0_11 (fun σ1 => ?_)
      refine r_iinc (pc := 15) (lv' := [(0, .ref _)]) X dX2_startPlaceTally_15 1 rfl (congrArg (fun z => v1 + z) kc_1) (by decide) rfl (fun x2 => ?_)
      refine r_goto (pc := 18) (tgt := 2) X dX2_startPlaceTally_18 (by decide) ?_
      refine r_sub [1, 0] rfl ?_
      exact ih x2 σ1

set_option maxRecDepth 100000 in
theorem m_X2_startPlaceTally {y : LY} {l : Launch}   {σ : ST} {a : ST} (h : T_X2_startPlaceTally σ = some a) : MU y l yX2_startPlaceTally cX2_startPlaceTally 2 none (rmd 0) [.ref (ad y 0)] σ (xV a) := by
  refine MU.of (φ := xV) h (by decide +kernel) rfl (fun E X Z hy => ?_)
  have X : CX y l E cX2_startPlaceTally 2 RX2 (rmd 0) := X
  show WW y l E 2 _ 0 [(0, .ref (ad y 0))] [] σ (T_X2_startPlaceTally σ)
  unfold T_X2_startPlaceTally
  refine r_iconst (pc := 0) X dX2_startPlaceTally_0 kc_0 ?_
  refine r_istore_n (pc := 1) (lv' := [(1, .int _), (0, .ref _)]) X dX2_startPlaceTally_1 rfl (by decide) rfl ?_
  refine r_sub [1, 0] rfl ?_
  exact s_X2_startPlaceTally_L2 X Z hy FU 0 σ

set_option maxRecDepth 100000 in
theorem s_X2_tallyPlaces_L2 {y : LY} {l : Launch} {E : ET} (X : CX y l E cX2_tallyPlaces 2 RX2 (rmd 1)) (Z : ZX E none) (hy : y.1 ≤ (eS E).heap.size)     (n : Nat) : ∀ (v1 : Int32) (σ : ST), WW y l E 2 (fun a => QM y E (xV a)) 2 [(0, .ref (ad y 0)), (1, .int v1)] [] σ (T_X2_tallyPlaces_L2  n v1 σ) := by
  induction n with
  | zero => intros; exact r_none rfl
  | succ n ih =>
    intro v1 σ
    unfold T_X2_tallyPlaces_L2
    refine r_iload_n (pc := 2) X dX2_tallyPlaces_2 1 rfl rfl ?_
    refine r_aload_n (pc := 3) X dX2_tallyPlaces_3 0 rfl rfl ?_
    refine r_geto (pc := 4) 2 X dX2_tallyPlaces_4 fl_X2_16 rfl (by decide) ?_
    refine r_geti (pc := 7) X dX2_tallyPlaces_7 fl_X2_159 oc_2 rfl (fun x1 => ?_)
    refine r_icmp_ge (pc := 10) (tgt := 52) X dX2_tallyPlaces_10 (by decide) ?_ ?_
    · exact r_vret (pc := 52) X Z dX2_tallyPlaces_52 rfl
    · refine r_aload_n (pc := 13) X dX2_tallyPlaces_13 0 rfl rfl ?_
      refine r_geto (pc := 14) 2 X dX2_tallyPlaces_14 fl_X2_16 rfl (by decide) ?_
      refine r_geta (pc := 17) X dX2_tallyPlaces_17 fl_X2_144 oc_2 (by decide) ?_
      refine r_iload_n (pc := 20) X dX2_tallyPlaces_20 1 rfl rfl ?_
      refine r_iald (pc := 21) X dX2_tallyPlaces_21 ar_2_10 (fun x2 => ?_)
      refine r_callsp (pc := 22) X dX2_tallyPlaces_22 cf_X2_isPlace ml_X2_175 (rf rfl rfl) hy (fun b hb => m_X2_isPlace hb) rfl rfl (Nat.le_of_ble_eq_true rfl) (fun x3 => ?_)
      refine r_if_eq (pc := 25) (tgt := 46) X dX2_tallyPlaces_25 (by decide) ?_ ?_
      · refine r_iinc (pc := 46) (lv' := [(0, .ref _)]) X dX2_tallyPlaces_46 1 rfl (congrArg (fun z => v1 + z) kc_1) (by decide) rfl (fun x5 => ?_)
        refine r_goto (pc := 49) (tgt := 2) X dX2_tallyPlaces_49 (by decide) ?_
        refine r_sub [1, 0] rfl ?_
        exact ih x5 σ
      · refine r_aload_n (pc := 28) X dX2_tallyPlaces_28 0 rfl rfl ?_
        refine r_geta (pc := 29) X dX2_tallyPlaces_29 fl_X2_50 oc_0 (by decide) ?_
        refine r_aload_n (pc := 32) X dX2_tallyPlaces_32 0 rfl rfl ?_
        refine r_geto (pc := 33) 2 X dX2_tallyPlaces_33 fl_X2_16 rfl (by decide) ?_
        refine r_geta (pc := 36) X dX2_tallyPlaces_36 fl_X2_144 oc_2 (by decide) ?_
        refine r_iload_n (pc := 39) X dX2_tallyPlaces_39 1 rfl rfl ?_
        refine r_iald (pc := 40) X dX2_tallyPlaces_40 ar_2_10 (fun x6 => ?_)
        refine r_dup2 (pc := 41) X dX2_tallyPlaces_41 rfl rfl ?_
        refine r_iald (pc := 42) X dX2_tallyPlaces_42 ar_0_11 (fun x7 => ?_)
        refine r_iconst (pc := 43) X dX2_tallyPlaces_43 kc_1 ?_
        refine r_iadd (pc := 44) X dX2_tallyPlaces_44 ?_
        refine r_iast (pc := 45) X dX2_tallyPlaces_45 ar_0_11 (fun σ8 => ?_)
        refine r_iinc (pc := 46) (lv' := [(0, .ref _)]) X dX2_tallyPlaces_46 1 rfl (congrArg (fun z => v1 + z) kc_1) (by decide) rfl (fun x9 => ?_)
        refine r_goto (pc := 49) (tgt := 2) X dX2_tallyPlaces_49 (by decide) ?_
        refine r_sub [1, 0] rfl ?_
        exact ih x9 σ8

set_option maxRecDepth 100000 in
theorem m_X2_tallyPlaces {y : LY} {l : Launch}   {σ : ST} {a : ST} (h : T_X2_tallyPlaces σ = some a) : MU y l yX2_tallyPlaces cX2_tallyPlaces 2 none (rmd 1) [.ref (ad y 0)] σ (xV a) := by
  refine MU.of (φ := xV) h (by decide +kernel) rfl (fun E X Z hy => ?_)
  have X : CX y l E cX2_tallyPlaces 2 RX2 (rmd 1) := X
  show WW y l E 2 _ 0 [(0, .ref (ad y 0))] [] σ (T_X2_tallyPlaces σ)
  unfold T_X2_tallyPlaces
  refine r_iconst (pc := 0) X dX2_tallyPlaces_0 kc_0 ?_
  refine r_istore_n (pc := 1) (lv' := [(1, .int _), (0, .ref _)]) X dX2_tallyPlaces_1 rfl (by decide) rfl ?_
  refine r_sub [1, 0] rfl ?_
  exact s_X2_tallyPlaces_L2 X Z hy FU 0 σ

set_option maxRecDepth 100000 in
theorem s_X2_fullestPlace_L4 {y : LY} {l : Launch} {E : ET} (X : CX y l E cX2_fullestPlace 3 RX2 (rmd 0)) (Z : ZX E (some .int)) (hy : y.1 ≤ (eS E).heap.size)  {σ : ST}   (n : Nat) : ∀ (v1 : Int32) (v2 : Int32), WW y l E 3 (fun a => QM y E (xp σ a)) 4 [(0, .ref (ad y 0)), (1, .int v1), (2, .int v2)] [] σ (T_X2_fullestPlace_L4 σ n v1 v2) := by
  induction n with
  | zero => intros; exact r_none rfl
  | succ n ih =>
    intro v1 v2
    unfold T_X2_fullestPlace_L4
    refine r_iload_n (pc := 4) X dX2_fullestPlace_4 2 rfl rfl ?_
    refine r_bipush (pc := 5) X dX2_fullestPlace_5 kb_10 ?_
    refine r_icmp_ge (pc := 7) (tgt := 33) X dX2_fullestPlace_7 (by decide) ?_ ?_
    · refine r_iload_n (pc := 33) X dX2_fullestPlace_33 1 rfl rfl ?_
      exact r_iret (pc := 34) X Z dX2_fullestPlace_34 rfl
    · refine r_aload_n (pc := 10) X dX2_fullestPlace_10 0 rfl rfl ?_
      refine r_geta (pc := 11) X dX2_fullestPlace_11 fl_X2_50 oc_0 (by decide) ?_
      refine r_iload_n (pc := 14) X dX2_fullestPlace_14 2 rfl rfl ?_
      refine r_iald (pc := 15) X dX2_fullestPlace_15 ar_0_11 (fun x1 => ?_)
      refine r_aload_n (pc := 16) X dX2_fullestPlace_16 0 rfl rfl ?_
      refine r_geta (pc := 17) X dX2_fullestPlace_17 fl_X2_50 oc_0 (by decide) ?_
      refine r_iload_n (pc := 20) X dX2_fullestPlace_20 1 rfl rfl ?_
      refine r_iald (pc := 21) X dX2_fullestPlace_21 ar_0_11 (fun x2 => ?_)
      refine r_icmp_le (pc := 22) (tgt := 27) X dX2_fullestPlace_22 (by decide) ?_ ?_
      · refine r_iinc (pc := 27) (lv' := [(0, .ref _), (1, .int _)]) X dX2_fullestPlace_27 2 rfl (congrArg (fun z => v2 + z) kc_1) (by decide) rfl (fun x3 => ?_)
        refine r_goto (pc := 30) (tgt := 4) X dX2_fullestPlace_30 (by decide) ?_
        refine r_sub [1, 2, 0] rfl ?_
        exact ih v1 x3
      · refine r_iload_n (pc := 25) X dX2_fullestPlace_25 2 rfl rfl ?_
        refine r_istore_n (pc := 26) (lv' := [(1, .int _), (0, .ref _), (2, .int _)]) X dX2_fullestPlace_26 rfl (by decide) rfl ?_
        refine r_iinc (pc := 27) (lv' := [(1, .int _), (0, .ref _)]) X dX2_fullestPlace_27 2 rfl (congrArg (fun z => v2 + z) kc_1) (by decide) rfl (fun x4 => ?_)
        refine r_goto (pc := 30) (tgt := 4) X dX2_fullestPlace_30 (by decide) ?_
        refine r_sub [2, 1, 0] rfl ?_
        exact ih v2 x4

set_option maxRecDepth 100000 in
theorem m_X2_fullestPlace {y : LY} {l : Launch}   {σ : ST} {a : Int32} (h : T_X2_fullestPlace σ = some a) : MU y l yX2_fullestPlace cX2_fullestPlace 3 (some .int) (rmd 0) [.ref (ad y 0)] σ (xp σ a) := by
  refine MU.of (φ := xp σ) h (by decide +kernel) rfl (fun E X Z hy => ?_)
  have X : CX y l E cX2_fullestPlace 3 RX2 (rmd 0) := X
  show WW y l E 3 _ 0 [(0, .ref (ad y 0))] [] σ (T_X2_fullestPlace σ)
  unfold T_X2_fullestPlace
  refine r_iconst (pc := 0) X dX2_fullestPlace_0 kc_0 ?_
  refine r_istore_n (pc := 1) (lv' := [(1, .int _), (0, .ref _)]) X dX2_fullestPlace_1 rfl (by decide) rfl ?_
  refine r_iconst (pc := 2) X dX2_fullestPlace_2 kc_1 ?_
  refine r_istore_n (pc := 3) (lv' := [(2, .int _), (1, .int _), (0, .ref _)]) X dX2_fullestPlace_3 rfl (by decide) rfl ?_
  refine r_sub [2, 1, 0] rfl ?_
  exact s_X2_fullestPlace_L4 X Z hy FU 0 1

set_option maxRecDepth 100000 in
theorem m_X2_company {y : LY} {l : Launch}  {a0 : Int32} {a1 : Int32} {σ : ST} {a : (Int32 × ST)} (h : T_X2_company a0 a1 σ = some a) : MU y l yX2_company cX2_company 5 (some .int) (rmd 5) [.ref (ad y 0), .int a0, .int a1] σ (xI a) := by
  refine MU.of (φ := xI) h (by decide +kernel) rfl (fun E X Z hy => ?_)
  have X : CX y l E cX2_company 5 RX2 (rmd 5) := X
  show WW y l E 5 _ 0 [(0, .ref (ad y 0)), (1, .int a0), (2, .int a1)] [] σ (T_X2_company a0 a1 σ)
  unfold T_X2_company
  refine r_iload_n (pc := 0) X dX2_company_0 1 rfl rfl ?_
  refine r_iload_n (pc := 1) X dX2_company_1 2 rfl rfl ?_
  refine r_iconst (pc := 2) X dX2_company_2 kc_1 ?_
  refine r_callsp (pc := 3) X dX2_company_3 cf_X2_wrongHoursOrWhat ml_X2_199 (rf rfl rfl) hy (fun b hb => m_X2_wrongHoursOrWhat hb) rfl rfl (Nat.le_of_ble_eq_true rfl) (fun x1 => ?_)
  refine r_istore_n (pc := 6) (lv' := [(3, .int _), (0, .ref _), (1, .int _), (2, .int _)]) X dX2_company_6 rfl (by decide) rfl ?_
  refine r_iload_n (pc := 7) X dX2_company_7 0 rfl rfl ?_
  refine r_if_eq (pc := 8) (tgt := 17) X dX2_company_8 (by decide) ?_ ?_
  · refine r_aload_n (pc := 17) X dX2_company_17 1 rfl rfl ?_
    refine r_callvV (pc := 18) X dX2_company_18 cf_X2_think ml_X2_67 (rf rfl rfl) hy oc_0.1 hc_2 (fun b hb => m_X2_think hb) rfl rfl (Nat.le_of_ble_eq_true rfl) (fun σ4 => ?_)
    refine r_aload_n (pc := 21) X dX2_company_21 1 rfl rfl ?_
    refine r_geto (pc := 22) 2 X dX2_company_22 fl_X2_16 rfl (by decide) ?_
    refine r_iload_n (pc := 25) X dX2_company_25 2 rfl rfl ?_
    refine r_callvV (pc := 26) X dX2_company_26 cf_X0_goHours ml_X2_107 (rf rfl rfl) hy oc_2.1 (hc_0 (by decide)) (fun b hb => m_X0_goHours (by decide) hb) rfl rfl (Nat.le_of_ble_eq_true rfl) (fun σ6 => ?_)
    refine r_aload_n (pc := 29) X dX2_company_29 1 rfl rfl ?_
    refine r_callvV (pc := 30) X dX2_company_30 cf_X2_startPlaceTally ml_X2_202 (rf rfl rfl) hy oc_0.1 hc_2 (fun b hb => m_X2_startPlaceTally hb) rfl rfl (Nat.le_of_ble_eq_true rfl) (fun σ8 => ?_)
    refine r_aload_n (pc := 33) X dX2_company_33 1 rfl rfl ?_
    refine r_callvV (pc := 34) X dX2_company_34 cf_X2_tallyPlaces ml_X2_205 (rf rfl rfl) hy oc_0.1 hc_2 (fun b hb => m_X2_tallyPlaces hb) rfl rfl (Nat.le_of_ble_eq_true rfl) (fun σ10 => ?_)
    refine r_aload_n (pc := 37) X dX2_company_37 1 rfl rfl ?_
    refine r_callvp (pc := 38) X dX2_company_38 cf_X2_fullestPlace ml_X2_208 (rf rfl rfl) hy oc_0.1 hc_2 (fun b hb => m_X2_fullestPlace hb) rfl rfl (Nat.le_of_ble_eq_true rfl) (fun x11 => ?_)
    refine r_istore (pc := 41) (lv' := [(4, .int _), (3, .int _), (0, .ref _), (1, .int _), (2, .int _)]) X dX2_company_41 (by decide) rfl ?_
    refine r_iload_n (pc := 43) X dX2_company_43 4 rfl rfl ?_
    refine r_if_ne (pc := 44) (tgt := 57) X dX2_company_44 (by decide) ?_ ?_
    · refine r_iload (pc := 57) X dX2_company_57 0 rfl ?_
      exact r_iret (pc := 59) X Z dX2_company_59 rfl
    · refine r_aload_n (pc := 47) X dX2_company_47 2 rfl rfl ?_
      refine r_geta (pc := 48) X dX2_company_48 fl_X2_50 oc_0 (by decide) ?_
      refine r_iload (pc := 51) X dX2_company_51 0 rfl ?_
      refine r_iald (pc := 53) X dX2_company_53 ar_0_11 (fun x13 => ?_)
      refine r_goto (pc := 54) (tgt := 59) X dX2_company_54 (by decide) ?_
      exact r_iret (pc := 59) X Z dX2_company_59 rfl
  · refine r_aload_n (pc := 11) X dX2_company_11 1 rfl rfl ?_
    refine r_iload_n (pc := 12) X dX2_company_12 0 rfl rfl ?_
    refine r_callvI (pc := 13) X dX2_company_13 cf_X2_refuse ml_X2_60 (rf rfl rfl) hy oc_0.1 hc_2 (fun b hb => m_X2_refuse hb) rfl rfl (Nat.le_of_ble_eq_true rfl) (fun x14 σ15 => ?_)
    exact r_iret (pc := 16) X Z dX2_company_16 rfl

set_option maxRecDepth 100000 in
theorem s_X2_firstOutOfBreath_L2 {y : LY} {l : Launch} {E : ET} (X : CX y l E cX2_firstOutOfBreath 2 RX2 (rmd 0)) (Z : ZX E (some .int)) (hy : y.1 ≤ (eS E).heap.size)  {σ : ST}   (n : Nat) : ∀ (v1 : Int32), WW y l E 2 (fun a => QM y E (xp σ a)) 2 [(0, .ref (ad y 0)), (1, .int v1)] [] σ (T_X2_firstOutOfBreath_L2 σ n v1) := by
  induction n with
  | zero => intros; exact r_none rfl
  | succ n ih =>
    intro v1
    unfold T_X2_firstOutOfBreath_L2
    refine r_iload_n (pc := 2) X dX2_firstOutOfBreath_2 1 rfl rfl ?_
    refine r_aload_n (pc := 3) X dX2_firstOutOfBreath_3 0 rfl rfl ?_
    refine r_geto (pc := 4) 2 X dX2_firstOutOfBreath_4 fl_X2_16 rfl (by decide) ?_
    refine r_geti (pc := 7) X dX2_firstOutOfBreath_7 fl_X2_159 oc_2 rfl (fun x1 => ?_)
    refine r_icmp_ge (pc := 10) (tgt := 33) X dX2_firstOutOfBreath_10 (by decide) ?_ ?_
    · refine r_bipush (pc := 33) X dX2_firstOutOfBreath_33 kb_m9 ?_
      exact r_iret (pc := 35) X Z dX2_firstOutOfBreath_35 rfl
    · refine r_aload_n (pc := 13) X dX2_firstOutOfBreath_13 0 rfl rfl ?_
      refine r_geto (pc := 14) 2 X dX2_firstOutOfBreath_14 fl_X2_16 rfl (by decide) ?_
      refine r_geta (pc := 17) X dX2_firstOutOfBreath_17 fl_X2_150 oc_2 (by decide) ?_
      refine r_iload_n (pc := 20) X dX2_firstOutOfBreath_20 1 rfl rfl ?_
      refine r_iald (pc := 21) X dX2_firstOutOfBreath_21 ar_2_12 (fun x2 => ?_)
      refine r_if_ne (pc := 22) (tgt := 27) X dX2_firstOutOfBreath_22 (by decide) ?_ ?_
      · refine r_iinc (pc := 27) (lv' := [(0, .ref _)]) X dX2_firstOutOfBreath_27 1 rfl (congrArg (fun z => v1 + z) kc_1) (by decide) rfl (fun x3 => ?_)
        refine r_goto (pc := 30) (tgt := 2) X dX2_firstOutOfBreath_30 (by decide) ?_
        refine r_sub [1, 0] rfl ?_
        exact ih x3
      · refine r_iload_n (pc := 25) X dX2_firstOutOfBreath_25 1 rfl rfl ?_
        exact r_iret (pc := 26) X Z dX2_firstOutOfBreath_26 rfl

set_option maxRecDepth 100000 in
theorem m_X2_firstOutOfBreath {y : LY} {l : Launch}   {σ : ST} {a : Int32} (h : T_X2_firstOutOfBreath σ = some a) : MU y l yX2_firstOutOfBreath cX2_firstOutOfBreath 2 (some .int) (rmd 0) [.ref (ad y 0)] σ (xp σ a) := by
  refine MU.of (φ := xp σ) h (by decide +kernel) rfl (fun E X Z hy => ?_)
  have X : CX y l E cX2_firstOutOfBreath 2 RX2 (rmd 0) := X
  show WW y l E 2 _ 0 [(0, .ref (ad y 0))] [] σ (T_X2_firstOutOfBreath σ)
  unfold T_X2_firstOutOfBreath
  refine r_iconst (pc := 0) X dX2_firstOutOfBreath_0 kc_0 ?_
  refine r_istore_n (pc := 1) (lv' := [(1, .int _), (0, .ref _)]) X dX2_firstOutOfBreath_1 rfl (by decide) rfl ?_
  refine r_sub [1, 0] rfl ?_
  exact s_X2_firstOutOfBreath_L2 X Z hy FU 0

set_option maxRecDepth 100000 in
theorem s_X2_breathless_j67 {y : LY} {l : Launch} {E : ET} (X : CX y l E cX2_breathless 4 RX2 (rmd 5)) (Z : ZX E (some .int)) (hy : y.1 ≤ (eS E).heap.size)   {K28 : Int32 → Int32 → ST → Option (Int32 × ST)} (hK28 : ∀ (v1 : Int32) (v2 : Int32) (σ : ST), WW y l E 4 (fun a => QM y E (xI a)) 28 [(0, .ref (ad y 0)), (1, .int v1), (2, .int v2)] [] σ (K28 v1 v2 σ)) (v1 : Int32) (v2 : Int32) (σ : ST) : WW y l E 4 (fun a => QM y E (xI a)) 67 [(0, .ref (ad y 0)), (1, .int v1), (2, .int v2)] [] σ (T_X2_breathless_j67 K28  v1 v2 σ) := by
  unfold T_X2_breathless_j67
  refine r_aload_n (pc := 67) X dX2_breathless_67 0 rfl rfl ?_
  refine r_geto (pc := 68) 2 X dX2_breathless_68 fl_X2_16 rfl (by decide) ?_
  refine r_iconst (pc := 71) X dX2_breathless_71 kc_1 ?_
  refine r_callvV (pc := 72) X dX2_breathless_72 cf_X0_goHours ml_X2_107 (rf rfl rfl) hy oc_2.1 (hc_0 (by decide)) (fun b hb => m_X0_goHours (by decide) hb) rfl rfl (Nat.le_of_ble_eq_true rfl) (fun σ2 => ?_)
  refine r_iinc (pc := 75) (lv' := [(0, .ref _), (1, .int _)]) X dX2_breathless_75 2 rfl (congrArg (fun z => v2 + z) kc_1) (by decide) rfl (fun x3 => ?_)
  refine r_goto (pc := 78) (tgt := 28) X dX2_breathless_78 (by decide) ?_
  refine r_sub [1, 2, 0] rfl ?_
  exact hK28 v1 x3 σ2

set_option maxRecDepth 100000 in
theorem s_X2_breathless_L28 {y : LY} {l : Launch} {E : ET} (X : CX y l E cX2_breathless 4 RX2 (rmd 5)) (Z : ZX E (some .int)) (hy : y.1 ≤ (eS E).heap.size)     (n : Nat) : ∀ (v1 : Int32) (v2 : Int32) (σ : ST), WW y l E 4 (fun a => QM y E (xI a)) 28 [(0, .ref (ad y 0)), (1, .int v1), (2, .int v2)] [] σ (T_X2_breathless_L28  n v1 v2 σ) := by
  induction n with
  | zero => intros; exact r_none rfl
  | succ n ih =>
    intro v1 v2 σ
    unfold T_X2_breathless_L28
    refine r_iload_n (pc := 28) X dX2_breathless_28 2 rfl rfl ?_
    refine r_bipush (pc := 29) X dX2_breathless_29 kb_60 ?_
    refine r_icmp_gt (pc := 31) (tgt := 81) X dX2_breathless_31 (by decide) ?_ ?_
    · refine r_bipush (pc := 81) X dX2_breathless_81 kb_m9 ?_
      exact r_iret (pc := 83) X Z dX2_breathless_83 rfl
    · refine r_iload_n (pc := 34) X dX2_breathless_34 1 rfl rfl ?_
      refine r_iconst (pc := 35) X dX2_breathless_35 kc_m1 ?_
      refine r_icmp_ne (pc := 36) (tgt := 53) X dX2_breathless_36 (by decide) ?_ ?_
      · refine r_aload_n (pc := 53) X dX2_breathless_53 0 rfl rfl ?_
        refine r_geto (pc := 54) 2 X dX2_breathless_54 fl_X2_16 rfl (by decide) ?_
        refine r_geta (pc := 57) X dX2_breathless_57 fl_X2_150 oc_2 (by decide) ?_
        refine r_iload_n (pc := 60) X dX2_breathless_60 1 rfl rfl ?_
        refine r_iald (pc := 61) X dX2_breathless_61 ar_2_12 (fun x1 => ?_)
        refine r_if_ne (pc := 62) (tgt := 67) X dX2_breathless_62 (by decide) ?_ ?_
        · exact s_X2_breathless_j67 X Z hy (fun v1 v2 s => ih v1 v2 s) v1 v2 σ
        · refine r_iload_n (pc := 65) X dX2_breathless_65 2 rfl rfl ?_
          exact r_iret (pc := 66) X Z dX2_breathless_66 rfl
      · refine r_aload_n (pc := 39) X dX2_breathless_39 0 rfl rfl ?_
        refine r_callvp (pc := 40) X dX2_breathless_40 cf_X2_firstOutOfBreath ml_X2_211 (rf rfl rfl) hy oc_0.1 hc_2 (fun b hb => m_X2_firstOutOfBreath hb) rfl rfl (Nat.le_of_ble_eq_true rfl) (fun x2 => ?_)
        refine r_istore_n (pc := 43) (lv' := [(3, .int _), (0, .ref _), (1, .int _), (2, .int _)]) X dX2_breathless_43 rfl (by decide) rfl ?_
        refine r_iload_n (pc := 44) X dX2_breathless_44 0 rfl rfl ?_
        refine r_if_lt (pc := 45) (tgt := 50) X dX2_breathless_45 (by decide) ?_ ?_
        · refine r_goto (pc := 50) (tgt := 67) X dX2_breathless_50 (by decide) ?_
          refine r_sub [1, 2, 3] rfl ?_
          exact s_X2_breathless_j67 X Z hy (fun v1 v2 s => ih v1 v2 s) v1 v2 σ
        · refine r_iload_n (pc := 48) X dX2_breathless_48 0 rfl rfl ?_
          exact r_iret (pc := 49) X Z dX2_breathless_49 rfl

set_option maxRecDepth 100000 in
theorem s_X2_breathless_j22 {y : LY} {l : Launch} {E : ET} (X : CX y l E cX2_breathless 4 RX2 (rmd 5)) (Z : ZX E (some .int)) (hy : y.1 ≤ (eS E).heap.size)     (v1 : Int32) (σ : ST) : WW y l E 4 (fun a => QM y E (xI a)) 22 [(0, .ref (ad y 0)), (1, .int v1)] [] σ (T_X2_breathless_j22   v1 σ) := by
  unfold T_X2_breathless_j22
  refine r_aload_n (pc := 22) X dX2_breathless_22 0 rfl rfl ?_
  refine r_callvV (pc := 23) X dX2_breathless_23 cf_X2_think ml_X2_67 (rf rfl rfl) hy oc_0.1 hc_2 (fun b hb => m_X2_think hb) rfl rfl (Nat.le_of_ble_eq_true rfl) (fun σ2 => ?_)
  refine r_iconst (pc := 26) X dX2_breathless_26 kc_0 ?_
  refine r_istore_n (pc := 27) (lv' := [(2, .int _), (0, .ref _), (1, .int _)]) X dX2_breathless_27 rfl (by decide) rfl ?_
  refine r_sub [1, 2, 0] rfl ?_
  exact s_X2_breathless_L28 X Z hy FU v1 0 σ2

set_option maxRecDepth 100000 in
theorem m_X2_breathless {y : LY} {l : Launch}  {a0 : Int32} {σ : ST} {a : (Int32 × ST)} (h : T_X2_breathless a0 σ = some a) : MU y l yX2_breathless cX2_breathless 4 (some .int) (rmd 5) [.ref (ad y 0), .int a0] σ (xI a) := by
  refine MU.of (φ := xI) h (by decide +kernel) rfl (fun E X Z hy => ?_)
  have X : CX y l E cX2_breathless 4 RX2 (rmd 5) := X
  show WW y l E 4 _ 0 [(0, .ref (ad y 0)), (1, .int a0)] [] σ (T_X2_breathless a0 σ)
  unfold T_X2_breathless
  refine r_iload_n (pc := 0) X dX2_breathless_0 1 rfl rfl ?_
  refine r_iconst (pc := 1) X dX2_breathless_1 kc_m1 ?_
  refine r_icmp_eq (pc := 2) (tgt := 22) X dX2_breathless_2 (by decide) ?_ ?_
  · exact s_X2_breathless_j22 X Z hy a0 σ
  · refine r_aload_n (pc := 5) X dX2_breathless_5 0 rfl rfl ?_
    refine r_geto (pc := 6) 1 X dX2_breathless_6 fl_X2_12 rfl (by decide) ?_
    refine r_iload_n (pc := 9) X dX2_breathless_9 1 rfl rfl ?_
    refine r_callvp (pc := 10) X dX2_breathless_10 cf_X0_hasBearer ml_X2_135 (rf rfl rfl) hy oc_1.1 (hc_0 (by decide)) (fun b hb => m_X0_hasBearer (by decide) hb) rfl rfl (Nat.le_of_ble_eq_true rfl) (fun x1 => ?_)
    refine r_if_ne (pc := 13) (tgt := 22) X dX2_breathless_13 (by decide) ?_ ?_
    · exact s_X2_breathless_j22 X Z hy a0 σ
    · refine r_aload_n (pc := 16) X dX2_breathless_16 0 rfl rfl ?_
      refine r_iconst (pc := 17) X dX2_breathless_17 kc_m1 ?_
      refine r_callvI (pc := 18) X dX2_breathless_18 cf_X2_refuse ml_X2_60 (rf rfl rfl) hy oc_0.1 hc_2 (fun b hb => m_X2_refuse hb) rfl rfl (Nat.le_of_ble_eq_true rfl) (fun x3 σ4 => ?_)
      exact r_iret (pc := 21) X Z dX2_breathless_21 rfl

set_option maxRecDepth 100000 in
theorem s_X2_whereColonel_L8 {y : LY} {l : Launch} {E : ET} (X : CX y l E cX2_whereColonel 5 RX2 (rmd 5)) (Z : ZX E (some .int)) (hy : y.1 ≤ (eS E).heap.size)     (n : Nat) : ∀ (v1 : Int32) (v2 : Int32) (v3 : Int32) (v4 : Int32) (σ : ST), WW y l E 5 (fun a => QM y E (xI a)) 8 [(0, .ref (ad y 0)), (1, .int v1), (2, .int v2), (3, .int v3), (4, .int v4)] [] σ (T_X2_whereColonel_L8  n v1 v2 v3 v4 σ) := by
  induction n with
  | zero => intros; exact r_none rfl
  | succ n ih =>
    intro v1 v2 v3 v4 σ
    unfold T_X2_whereColonel_L8
    refine r_iload (pc := 8) X dX2_whereColonel_8 4 rfl ?_
    refine r_bipush (pc := 10) X dX2_whereColonel_10 kb_10 ?_
    refine r_icmp_ge (pc := 12) (tgt := 64) X dX2_whereColonel_12 (by decide) ?_ ?_
    · refine r_iload_n (pc := 64) X dX2_whereColonel_64 2 rfl rfl ?_
      exact r_iret (pc := 65) X Z dX2_whereColonel_65 rfl
    · refine r_aload_n (pc := 15) X dX2_whereColonel_15 0 rfl rfl ?_
      refine r_callvV (pc := 16) X dX2_whereColonel_16 cf_X2_think ml_X2_67 (rf rfl rfl) hy oc_0.1 hc_2 (fun b hb => m_X2_think hb) rfl rfl (Nat.le_of_ble_eq_true rfl) (fun σ2 => ?_)
      refine r_aload_n (pc := 19) X dX2_whereColonel_19 0 rfl rfl ?_
      refine r_geto (pc := 20) 2 X dX2_whereColonel_20 fl_X2_16 rfl (by decide) ?_
      refine r_iload (pc := 23) X dX2_whereColonel_23 4 rfl ?_
      refine r_puti (pc := 25) X dX2_whereColonel_25 fl_X2_101 fw_0_13 oc_2 rfl (fun σ3 => ?_)
      refine r_aload_n (pc := 28) X dX2_whereColonel_28 0 rfl rfl ?_
      refine r_geto (pc := 29) 2 X dX2_whereColonel_29 fl_X2_16 rfl (by decide) ?_
      refine r_iload_n (pc := 32) X dX2_whereColonel_32 1 rfl rfl ?_
      refine r_callvV (pc := 33) X dX2_whereColonel_33 cf_X0_goHours ml_X2_107 (rf rfl rfl) hy oc_2.1 (hc_0 (by decide)) (fun b hb => m_X0_goHours (by decide) hb) rfl rfl (Nat.le_of_ble_eq_true rfl) (fun σ5 => ?_)
      refine r_aload_n (pc := 36) X dX2_whereColonel_36 0 rfl rfl ?_
      refine r_geto (pc := 37) 2 X dX2_whereColonel_37 fl_X2_16 rfl (by decide) ?_
      refine r_geti (pc := 40) X dX2_whereColonel_40 fl_X2_181 oc_2 rfl (fun x6 => ?_)
      refine r_iload_n (pc := 43) X dX2_whereColonel_43 3 rfl rfl ?_
      refine r_icmp_ge (pc := 44) (tgt := 58) X dX2_whereColonel_44 (by decide) ?_ ?_
      · refine r_iinc (pc := 58) (lv' := [(0, .ref _), (1, .int _), (2, .int _), (3, .int _)]) X dX2_whereColonel_58 4 rfl (congrArg (fun z => v4 + z) kc_1) (by decide) rfl (fun x7 => ?_)
        refine r_goto (pc := 61) (tgt := 8) X dX2_whereColonel_61 (by decide) ?_
        refine r_sub [1, 2, 3, 4, 0] rfl ?_
        exact ih v1 v2 v3 x7 σ5
      · refine r_aload_n (pc := 47) X dX2_whereColonel_47 0 rfl rfl ?_
        refine r_geto (pc := 48) 2 X dX2_whereColonel_48 fl_X2_16 rfl (by decide) ?_
        refine r_geti (pc := 51) X dX2_whereColonel_51 fl_X2_181 oc_2 rfl (fun x8 => ?_)
        refine r_istore_n (pc := 54) (lv' := [(3, .int _), (0, .ref _), (1, .int _), (2, .int _), (4, .int _)]) X dX2_whereColonel_54 rfl (by decide) rfl ?_
        refine r_iload (pc := 55) X dX2_whereColonel_55 4 rfl ?_
        refine r_istore_n (pc := 57) (lv' := [(2, .int _), (3, .int _), (0, .ref _), (1, .int _), (4, .int _)]) X dX2_whereColonel_57 rfl (by decide) rfl ?_
        refine r_iinc (pc := 58) (lv' := [(2, .int _), (3, .int _), (0, .ref _), (1, .int _)]) X dX2_whereColonel_58 4 rfl (congrArg (fun z => v4 + z) kc_1) (by decide) rfl (fun x9 => ?_)
        refine r_goto (pc := 61) (tgt := 8) X dX2_whereColonel_61 (by decide) ?_
        refine r_sub [3, 4, 1, 2, 0] rfl ?_
        exact ih v1 v4 x8 x9 σ5

set_option maxRecDepth 100000 in
theorem m_X2_whereColonel {y : LY} {l : Launch}  {a0 : Int32} {σ : ST} {a : (Int32 × ST)} (h : T_X2_whereColonel a0 σ = some a) : MU y l yX2_whereColonel cX2_whereColonel 5 (some .int) (rmd 5) [.ref (ad y 0), .int a0] σ (xI a) := by
  refine MU.of (φ := xI) h (by decide +kernel) rfl (fun E X Z hy => ?_)
  have X : CX y l E cX2_whereColonel 5 RX2 (rmd 5) := X
  show WW y l E 5 _ 0 [(0, .ref (ad y 0)), (1, .int a0)] [] σ (T_X2_whereColonel a0 σ)
  unfold T_X2_whereColonel
  refine r_iconst (pc := 0) X dX2_whereColonel_0 kc_0 ?_
  refine r_istore_n (pc := 1) (lv' := [(2, .int _), (0, .ref _), (1, .int _)]) X dX2_whereColonel_1 rfl (by decide) rfl ?_
  refine r_ldc (pc := 2) X dX2_whereColonel_2 lc_X2_220 ?_
  refine r_istore_n (pc := 4) (lv' := [(3, .int _), (2, .int _), (0, .ref _), (1, .int _)]) X dX2_whereColonel_4 rfl (by decide) rfl ?_
  refine r_iconst (pc := 5) X dX2_whereColonel_5 kc_0 ?_
  refine r_istore (pc := 6) (lv' := [(4, .int _), (3, .int _), (2, .int _), (0, .ref _), (1, .int _)]) X dX2_whereColonel_6 (by decide) rfl ?_
  refine r_sub [3, 4, 2, 1, 0] rfl ?_
  exact s_X2_whereColonel_L8 X Z hy FU a0 0 1000000 0 σ

set_option maxRecDepth 100000 in
theorem s_X2_leastLed_L5 {y : LY} {l : Launch} {E : ET} (X : CX y l E cX2_leastLed 3 RX2 (rmd 0)) (Z : ZX E (some .int)) (hy : y.1 ≤ (eS E).heap.size)  {σ : ST}   (n : Nat) : ∀ (v1 : Int32) (v2 : Int32), WW y l E 3 (fun a => QM y E (xp σ a)) 5 [(0, .ref (ad y 0)), (1, .int v1), (2, .int v2)] [] σ (T_X2_leastLed_L5 σ n v1 v2) := by
  induction n with
  | zero => intros; exact r_none rfl
  | succ n ih =>
    intro v1 v2
    unfold T_X2_leastLed_L5
    refine r_iload_n (pc := 5) X dX2_leastLed_5 2 rfl rfl ?_
    refine r_aload_n (pc := 6) X dX2_leastLed_6 0 rfl rfl ?_
    refine r_geto (pc := 7) 2 X dX2_leastLed_7 fl_X2_16 rfl (by decide) ?_
    refine r_geti (pc := 10) X dX2_leastLed_10 fl_X2_159 oc_2 rfl (fun x1 => ?_)
    refine r_icmp_ge (pc := 13) (tgt := 49) X dX2_leastLed_13 (by decide) ?_ ?_
    · refine r_iload_n (pc := 49) X dX2_leastLed_49 1 rfl rfl ?_
      exact r_iret (pc := 50) X Z dX2_leastLed_50 rfl
    · refine r_iload_n (pc := 16) X dX2_leastLed_16 1 rfl rfl ?_
      refine r_if_lt (pc := 17) (tgt := 41) X dX2_leastLed_17 (by decide) ?_ ?_
      · refine r_iload_n (pc := 41) X dX2_leastLed_41 2 rfl rfl ?_
        refine r_istore_n (pc := 42) (lv' := [(1, .int _), (0, .ref _), (2, .int _)]) X dX2_leastLed_42 rfl (by decide) rfl ?_
        refine r_iinc (pc := 43) (lv' := [(1, .int _), (0, .ref _)]) X dX2_leastLed_43 2 rfl (congrArg (fun z => v2 + z) kc_1) (by decide) rfl (fun x2 => ?_)
        refine r_goto (pc := 46) (tgt := 5) X dX2_leastLed_46 (by decide) ?_
        refine r_sub [2, 1, 0] rfl ?_
        exact ih v2 x2
      · refine r_aload_n (pc := 20) X dX2_leastLed_20 0 rfl rfl ?_
        refine r_geto (pc := 21) 2 X dX2_leastLed_21 fl_X2_16 rfl (by decide) ?_
        refine r_geta (pc := 24) X dX2_leastLed_24 fl_X2_187 oc_2 (by decide) ?_
        refine r_iload_n (pc := 27) X dX2_leastLed_27 2 rfl rfl ?_
        refine r_iald (pc := 28) X dX2_leastLed_28 ar_2_15 (fun x3 => ?_)
        refine r_aload_n (pc := 29) X dX2_leastLed_29 0 rfl rfl ?_
        refine r_geto (pc := 30) 2 X dX2_leastLed_30 fl_X2_16 rfl (by decide) ?_
        refine r_geta (pc := 33) X dX2_leastLed_33 fl_X2_187 oc_2 (by decide) ?_
        refine r_iload_n (pc := 36) X dX2_leastLed_36 1 rfl rfl ?_
        refine r_iald (pc := 37) X dX2_leastLed_37 ar_2_15 (fun x4 => ?_)
        refine r_icmp_ge (pc := 38) (tgt := 43) X dX2_leastLed_38 (by decide) ?_ ?_
        · refine r_iinc (pc := 43) (lv' := [(0, .ref _), (1, .int _)]) X dX2_leastLed_43 2 rfl (congrArg (fun z => v2 + z) kc_1) (by decide) rfl (fun x5 => ?_)
          refine r_goto (pc := 46) (tgt := 5) X dX2_leastLed_46 (by decide) ?_
          refine r_sub [1, 2, 0] rfl ?_
          exact ih v1 x5
        · refine r_iload_n (pc := 41) X dX2_leastLed_41 2 rfl rfl ?_
          refine r_istore_n (pc := 42) (lv' := [(1, .int _), (0, .ref _), (2, .int _)]) X dX2_leastLed_42 rfl (by decide) rfl ?_
          refine r_iinc (pc := 43) (lv' := [(1, .int _), (0, .ref _)]) X dX2_leastLed_43 2 rfl (congrArg (fun z => v2 + z) kc_1) (by decide) rfl (fun x6 => ?_)
          refine r_goto (pc := 46) (tgt := 5) X dX2_leastLed_46 (by decide) ?_
          refine r_sub [2, 1, 0] rfl ?_
          exact ih v2 x6

set_option maxRecDepth 100000 in
theorem m_X2_leastLed {y : LY} {l : Launch}   {σ : ST} {a : Int32} (h : T_X2_leastLed σ = some a) : MU y l yX2_leastLed cX2_leastLed 3 (some .int) (rmd 0) [.ref (ad y 0)] σ (xp σ a) := by
  refine MU.of (φ := xp σ) h (by decide +kernel) rfl (fun E X Z hy => ?_)
  have X : CX y l E cX2_leastLed 3 RX2 (rmd 0) := X
  show WW y l E 3 _ 0 [(0, .ref (ad y 0))] [] σ (T_X2_leastLed σ)
  unfold T_X2_leastLed
  refine r_bipush (pc := 0) X dX2_leastLed_0 kb_m9 ?_
  refine r_istore_n (pc := 2) (lv' := [(1, .int _), (0, .ref _)]) X dX2_leastLed_2 rfl (by decide) rfl ?_
  refine r_iconst (pc := 3) X dX2_leastLed_3 kc_0 ?_
  refine r_istore_n (pc := 4) (lv' := [(2, .int _), (1, .int _), (0, .ref _)]) X dX2_leastLed_4 rfl (by decide) rfl ?_
  refine r_sub [2, 1, 0] rfl ?_
  exact s_X2_leastLed_L5 X Z hy FU ((-9)) 0

set_option maxRecDepth 100000 in
theorem m_X2_snaps {y : LY} {l : Launch}  {a0 : Int32} {a1 : Int32} {σ : ST} {a : (Int32 × ST)} (h : T_X2_snaps a0 a1 σ = some a) : MU y l yX2_snaps cX2_snaps 4 (some .int) (rmd 6) [.ref (ad y 0), .int a0, .int a1] σ (xI a) := by
  refine MU.of (φ := xI) h (by decide +kernel) rfl (fun E X Z hy => ?_)
  have X : CX y l E cX2_snaps 4 RX2 (rmd 6) := X
  show WW y l E 4 _ 0 [(0, .ref (ad y 0)), (1, .int a0), (2, .int a1)] [] σ (T_X2_snaps a0 a1 σ)
  unfold T_X2_snaps
  refine r_iload_n (pc := 0) X dX2_snaps_0 1 rfl rfl ?_
  refine r_iload_n (pc := 1) X dX2_snaps_1 2 rfl rfl ?_
  refine r_iconst (pc := 2) X dX2_snaps_2 kc_2 ?_
  refine r_callsp (pc := 3) X dX2_snaps_3 cf_X2_wrongHoursOrWhat ml_X2_199 (rf rfl rfl) hy (fun b hb => m_X2_wrongHoursOrWhat hb) rfl rfl (Nat.le_of_ble_eq_true rfl) (fun x1 => ?_)
  refine r_istore_n (pc := 6) (lv' := [(3, .int _), (0, .ref _), (1, .int _), (2, .int _)]) X dX2_snaps_6 rfl (by decide) rfl ?_
  refine r_iload_n (pc := 7) X dX2_snaps_7 0 rfl rfl ?_
  refine r_if_eq (pc := 8) (tgt := 17) X dX2_snaps_8 (by decide) ?_ ?_
  · refine r_iload_n (pc := 17) X dX2_snaps_17 3 rfl rfl ?_
    refine r_iconst (pc := 18) X dX2_snaps_18 kc_1 ?_
    refine r_icmp_ne (pc := 19) (tgt := 28) X dX2_snaps_19 (by decide) ?_ ?_
    · refine r_aload_n (pc := 28) X dX2_snaps_28 1 rfl rfl ?_
      refine r_callvV (pc := 29) X dX2_snaps_29 cf_X2_think ml_X2_67 (rf rfl rfl) hy oc_0.1 hc_2 (fun b hb => m_X2_think hb) rfl rfl (Nat.le_of_ble_eq_true rfl) (fun σ4 => ?_)
      refine r_aload_n (pc := 32) X dX2_snaps_32 1 rfl rfl ?_
      refine r_geto (pc := 33) 2 X dX2_snaps_33 fl_X2_16 rfl (by decide) ?_
      refine r_iload_n (pc := 36) X dX2_snaps_36 2 rfl rfl ?_
      refine r_callvV (pc := 37) X dX2_snaps_37 cf_X0_goHours ml_X2_107 (rf rfl rfl) hy oc_2.1 (hc_0 (by decide)) (fun b hb => m_X0_goHours (by decide) hb) rfl rfl (Nat.le_of_ble_eq_true rfl) (fun σ6 => ?_)
      refine r_iload_n (pc := 40) X dX2_snaps_40 3 rfl rfl ?_
      refine r_if_ne (pc := 41) (tgt := 54) X dX2_snaps_41 (by decide) ?_ ?_
      · refine r_aload_n (pc := 54) X dX2_snaps_54 1 rfl rfl ?_
        refine r_callvp (pc := 55) X dX2_snaps_55 cf_X2_leastLed ml_X2_217 (rf rfl rfl) hy oc_0.1 hc_2 (fun b hb => m_X2_leastLed hb) rfl rfl (Nat.le_of_ble_eq_true rfl) (fun x7 => ?_)
        exact r_iret (pc := 58) X Z dX2_snaps_58 rfl
      · refine r_aload_n (pc := 44) X dX2_snaps_44 1 rfl rfl ?_
        refine r_geto (pc := 45) 2 X dX2_snaps_45 fl_X2_16 rfl (by decide) ?_
        refine r_geti (pc := 48) X dX2_snaps_48 fl_X2_181 oc_2 rfl (fun x9 => ?_)
        refine r_goto (pc := 51) (tgt := 58) X dX2_snaps_51 (by decide) ?_
        exact r_iret (pc := 58) X Z dX2_snaps_58 rfl
    · refine r_aload_n (pc := 22) X dX2_snaps_22 1 rfl rfl ?_
      refine r_iload_n (pc := 23) X dX2_snaps_23 2 rfl rfl ?_
      refine r_callvI (pc := 24) X dX2_snaps_24 cf_X2_whereColonel ml_X2_214 (rf rfl rfl) hy oc_0.1 hc_2 (fun b hb => m_X2_whereColonel hb) rfl rfl (Nat.le_of_ble_eq_true rfl) (fun x10 σ11 => ?_)
      exact r_iret (pc := 27) X Z dX2_snaps_27 rfl
  · refine r_aload_n (pc := 11) X dX2_snaps_11 1 rfl rfl ?_
    refine r_iload_n (pc := 12) X dX2_snaps_12 0 rfl rfl ?_
    refine r_callvI (pc := 13) X dX2_snaps_13 cf_X2_refuse ml_X2_60 (rf rfl rfl) hy oc_0.1 hc_2 (fun b hb => m_X2_refuse hb) rfl rfl (Nat.le_of_ble_eq_true rfl) (fun x12 σ13 => ?_)
    exact r_iret (pc := 16) X Z dX2_snaps_16 rfl

set_option maxRecDepth 100000 in
theorem m_X2_tired {y : LY} {l : Launch}  {a0 : Int32} {σ : ST} {a : (Int32 × ST)} (h : T_X2_tired a0 σ = some a) : MU y l yX2_tired cX2_tired 3 (some .int) (rmd 5) [.ref (ad y 0), .int a0] σ (xI a) := by
  refine MU.of (φ := xI) h (by decide +kernel) rfl (fun E X Z hy => ?_)
  have X : CX y l E cX2_tired 3 RX2 (rmd 5) := X
  show WW y l E 3 _ 0 [(0, .ref (ad y 0)), (1, .int a0)] [] σ (T_X2_tired a0 σ)
  unfold T_X2_tired
  refine r_iload_n (pc := 0) X dX2_tired_0 1 rfl rfl ?_
  refine r_callsp (pc := 1) X dX2_tired_1 cf_X2_wrongHours ml_X2_184 (rf rfl rfl) hy (fun b hb => m_X2_wrongHours hb) rfl rfl (Nat.le_of_ble_eq_true rfl) (fun x1 => ?_)
  refine r_istore_n (pc := 4) (lv' := [(2, .int _), (0, .ref _), (1, .int _)]) X dX2_tired_4 rfl (by decide) rfl ?_
  refine r_iload_n (pc := 5) X dX2_tired_5 0 rfl rfl ?_
  refine r_if_eq (pc := 6) (tgt := 15) X dX2_tired_6 (by decide) ?_ ?_
  · refine r_aload_n (pc := 15) X dX2_tired_15 1 rfl rfl ?_
    refine r_callvV (pc := 16) X dX2_tired_16 cf_X2_think ml_X2_67 (rf rfl rfl) hy oc_0.1 hc_2 (fun b hb => m_X2_think hb) rfl rfl (Nat.le_of_ble_eq_true rfl) (fun σ4 => ?_)
    refine r_aload_n (pc := 19) X dX2_tired_19 1 rfl rfl ?_
    refine r_geto (pc := 20) 2 X dX2_tired_20 fl_X2_16 rfl (by decide) ?_
    refine r_iload_n (pc := 23) X dX2_tired_23 2 rfl rfl ?_
    refine r_callvV (pc := 24) X dX2_tired_24 cf_X0_goHours ml_X2_107 (rf rfl rfl) hy oc_2.1 (hc_0 (by decide)) (fun b hb => m_X0_goHours (by decide) hb) rfl rfl (Nat.le_of_ble_eq_true rfl) (fun σ6 => ?_)
    refine r_aload_n (pc := 27) X dX2_tired_27 1 rfl rfl ?_
    refine r_geto (pc := 28) 2 X dX2_tired_28 fl_X2_16 rfl (by decide) ?_
    refine r_callvp (pc := 31) X dX2_tired_31 cf_X0_allBreath ml_X2_166 (rf rfl rfl) hy oc_2.1 (hc_0 (by decide)) (fun b hb => m_X0_allBreath (by decide) hb) rfl rfl (Nat.le_of_ble_eq_true rfl) (fun x7 => ?_)
    exact r_iret (pc := 34) X Z dX2_tired_34 rfl
  · refine r_aload_n (pc := 9) X dX2_tired_9 1 rfl rfl ?_
    refine r_iload_n (pc := 10) X dX2_tired_10 0 rfl rfl ?_
    refine r_callvI (pc := 11) X dX2_tired_11 cf_X2_refuse ml_X2_60 (rf rfl rfl) hy oc_0.1 hc_2 (fun b hb => m_X2_refuse hb) rfl rfl (Nat.le_of_ble_eq_true rfl) (fun x9 σ10 => ?_)
    exact r_iret (pc := 14) X Z dX2_tired_14 rfl

set_option maxRecDepth 100000 in
theorem s_X2_visits_j18 {y : LY} {l : Launch} {E : ET} (X : CX y l E cX2_visits 7 RX2 (rmd 5)) (Z : ZX E (some .int)) (hy : y.1 ≤ (eS E).heap.size)     (σ : ST) : WW y l E 7 (fun a => QM y E (xI a)) 18 [(0, .ref (ad y 0))] [] σ (T_X2_visits_j18   σ) := by
  unfold T_X2_visits_j18
  refine r_aload_n (pc := 18) X dX2_visits_18 0 rfl rfl ?_
  refine r_iconst (pc := 19) X dX2_visits_19 kc_m1 ?_
  refine r_callvI (pc := 20) X dX2_visits_20 cf_X2_refuse ml_X2_60 (rf rfl rfl) hy oc_0.1 hc_2 (fun b hb => m_X2_refuse hb) rfl rfl (Nat.le_of_ble_eq_true rfl) (fun x1 σ2 => ?_)
  exact r_iret (pc := 23) X Z dX2_visits_23 rfl

set_option maxRecDepth 100000 in
theorem s_X2_visits_L52 {y : LY} {l : Launch} {E : ET} (X : CX y l E cX2_visits 7 RX2 (rmd 5)) (Z : ZX E (some .int)) (hy : y.1 ≤ (eS E).heap.size)     (n : Nat) : ∀ (v1 : Int32) (v2 : Int32) (v3 : Int32) (v5 : Int32) (v6 : Int32) (σ : ST), WW y l E 7 (fun a => QM y E (xI a)) 52 [(0, .ref (ad y 0)), (1, .int v1), (2, .int v2), (3, .int v3), (5, .int v5), (6, .int v6)] [] σ (T_X2_visits_L52  n v1 v2 v3 v5 v6 σ) := by
  induction n with
  | zero => intros; exact r_none rfl
  | succ n ih =>
    intro v1 v2 v3 v5 v6 σ
    unfold T_X2_visits_L52
    refine r_iload (pc := 52) X dX2_visits_52 5 rfl ?_
    refine r_iload_n (pc := 54) X dX2_visits_54 3 rfl rfl ?_
    refine r_icmp_gt (pc := 55) (tgt := 88) X dX2_visits_55 (by decide) ?_ ?_
    · refine r_iload (pc := 88) X dX2_visits_88 4 rfl ?_
      exact r_iret (pc := 90) X Z dX2_visits_90 rfl
    · refine r_aload_n (pc := 58) X dX2_visits_58 0 rfl rfl ?_
      refine r_geto (pc := 59) 2 X dX2_visits_59 fl_X2_16 rfl (by decide) ?_
      refine r_iconst (pc := 62) X dX2_visits_62 kc_1 ?_
      refine r_callvV (pc := 63) X dX2_visits_63 cf_X0_goHours ml_X2_107 (rf rfl rfl) hy oc_2.1 (hc_0 (by decide)) (fun b hb => m_X0_goHours (by decide) hb) rfl rfl (Nat.le_of_ble_eq_true rfl) (fun σ2 => ?_)
      refine r_aload_n (pc := 66) X dX2_visits_66 0 rfl rfl ?_
      refine r_geto (pc := 67) 2 X dX2_visits_67 fl_X2_16 rfl (by decide) ?_
      refine r_geta (pc := 70) X dX2_visits_70 fl_X2_144 oc_2 (by decide) ?_
      refine r_iload_n (pc := 73) X dX2_visits_73 1 rfl rfl ?_
      refine r_iald (pc := 74) X dX2_visits_74 ar_2_10 (fun x3 => ?_)
      refine r_iload_n (pc := 75) X dX2_visits_75 2 rfl rfl ?_
      refine r_icmp_ne (pc := 76) (tgt := 82) X dX2_visits_76 (by decide) ?_ ?_
      · refine r_iinc (pc := 82) (lv' := [(0, .ref _), (1, .int _), (2, .int _), (3, .int _), (5, .int _)]) X dX2_visits_82 5 rfl (congrArg (fun z => v6 + z) kc_1) (by decide) rfl (fun x4 => ?_)
        refine r_goto (pc := 85) (tgt := 52) X dX2_visits_85 (by decide) ?_
        refine r_sub [1, 2, 3, 4, 5, 0] rfl ?_
        exact ih v1 v2 v3 v5 x4 σ2
      · refine r_iinc (pc := 79) (lv' := [(0, .ref _), (1, .int _), (2, .int _), (3, .int _), (6, .int _)]) X dX2_visits_79 4 rfl (congrArg (fun z => v5 + z) kc_1) (by decide) rfl (fun x5 => ?_)
        refine r_iinc (pc := 82) (lv' := [(5, .int _), (0, .ref _), (1, .int _), (2, .int _), (3, .int _)]) X dX2_visits_82 5 rfl (congrArg (fun z => v6 + z) kc_1) (by decide) rfl (fun x6 => ?_)
        refine r_goto (pc := 85) (tgt := 52) X dX2_visits_85 (by decide) ?_
        refine r_sub [2, 3, 4, 5, 1, 0] rfl ?_
        exact ih v1 v2 v3 x5 x6 σ2

set_option maxRecDepth 100000 in
theorem m_X2_visits {y : LY} {l : Launch}  {a0 : Int32} {a1 : Int32} {a2 : Int32} {σ : ST} {a : (Int32 × ST)} (h : T_X2_visits a0 a1 a2 σ = some a) : MU y l yX2_visits cX2_visits 7 (some .int) (rmd 5) [.ref (ad y 0), .int a0, .int a1, .int a2] σ (xI a) := by
  refine MU.of (φ := xI) h (by decide +kernel) rfl (fun E X Z hy => ?_)
  have X : CX y l E cX2_visits 7 RX2 (rmd 5) := X
  show WW y l E 7 _ 0 [(0, .ref (ad y 0)), (1, .int a0), (2, .int a1), (3, .int a2)] [] σ (T_X2_visits a0 a1 a2 σ)
  unfold T_X2_visits
  refine r_aload_n (pc := 0) X dX2_visits_0 0 rfl rfl ?_
  refine r_geto (pc := 1) 1 X dX2_visits_1 fl_X2_12 rfl (by decide) ?_
  refine r_iload_n (pc := 4) X dX2_visits_4 1 rfl rfl ?_
  refine r_callvp (pc := 5) X dX2_visits_5 cf_X0_hasBearer ml_X2_135 (rf rfl rfl) hy oc_1.1 (hc_0 (by decide)) (fun b hb => m_X0_hasBearer (by decide) hb) rfl rfl (Nat.le_of_ble_eq_true rfl) (fun x1 => ?_)
  refine r_if_eq (pc := 8) (tgt := 18) X dX2_visits_8 (by decide) ?_ ?_
  · refine r_sub [0] rfl ?_
    exact s_X2_visits_j18 X Z hy σ
  · refine r_iload_n (pc := 11) X dX2_visits_11 2 rfl rfl ?_
    refine r_callsp (pc := 12) X dX2_visits_12 cf_X2_isPlace ml_X2_175 (rf rfl rfl) hy (fun b hb => m_X2_isPlace hb) rfl rfl (Nat.le_of_ble_eq_true rfl) (fun x3 => ?_)
    refine r_if_ne (pc := 15) (tgt := 24) X dX2_visits_15 (by decide) ?_ ?_
    · refine r_iload_n (pc := 24) X dX2_visits_24 3 rfl rfl ?_
      refine r_callsp (pc := 25) X dX2_visits_25 cf_X2_wrongHours ml_X2_184 (rf rfl rfl) hy (fun b hb => m_X2_wrongHours hb) rfl rfl (Nat.le_of_ble_eq_true rfl) (fun x5 => ?_)
      refine r_istore (pc := 28) (lv' := [(4, .int _), (0, .ref _), (1, .int _), (2, .int _), (3, .int _)]) X dX2_visits_28 (by decide) rfl ?_
      refine r_iload (pc := 30) X dX2_visits_30 0 rfl ?_
      refine r_if_eq (pc := 32) (tgt := 42) X dX2_visits_32 (by decide) ?_ ?_
      · refine r_aload_n (pc := 42) X dX2_visits_42 1 rfl rfl ?_
        refine r_callvV (pc := 43) X dX2_visits_43 cf_X2_think ml_X2_67 (rf rfl rfl) hy oc_0.1 hc_2 (fun b hb => m_X2_think hb) rfl rfl (Nat.le_of_ble_eq_true rfl) (fun σ8 => ?_)
        refine r_iconst (pc := 46) X dX2_visits_46 kc_0 ?_
        refine r_istore (pc := 47) (lv' := [(5, .int _), (4, .int _), (0, .ref _), (1, .int _), (2, .int _), (3, .int _)]) X dX2_visits_47 (by decide) rfl ?_
        refine r_iconst (pc := 49) X dX2_visits_49 kc_1 ?_
        refine r_istore (pc := 50) (lv' := [(6, .int _), (5, .int _), (4, .int _), (0, .ref _), (1, .int _), (2, .int _), (3, .int _)]) X dX2_visits_50 (by decide) rfl ?_
        refine r_sub [3, 4, 5, 6, 1, 0] rfl ?_
        exact s_X2_visits_L52 X Z hy FU a0 a1 a2 0 1 σ8
      · refine r_aload_n (pc := 35) X dX2_visits_35 1 rfl rfl ?_
        refine r_iload (pc := 36) X dX2_visits_36 0 rfl ?_
        refine r_callvI (pc := 38) X dX2_visits_38 cf_X2_refuse ml_X2_60 (rf rfl rfl) hy oc_0.1 hc_2 (fun b hb => m_X2_refuse hb) rfl rfl (Nat.le_of_ble_eq_true rfl) (fun x9 σ10 => ?_)
        exact r_iret (pc := 41) X Z dX2_visits_41 rfl
    · refine r_sub [0] rfl ?_
      exact s_X2_visits_j18 X Z hy σ

set_option maxRecDepth 100000 in
theorem s_X2_together_L43 {y : LY} {l : Launch} {E : ET} (X : CX y l E cX2_together 7 RX2 (rmd 5)) (Z : ZX E (some .int)) (hy : y.1 ≤ (eS E).heap.size)     (n : Nat) : ∀ (v1 : Int32) (v2 : Int32) (v3 : Int32) (v5 : Int32) (v6 : Int32) (σ : ST), WW y l E 7 (fun a => QM y E (xI a)) 43 [(0, .ref (ad y 0)), (1, .int v1), (2, .int v2), (3, .int v3), (5, .int v5), (6, .int v6)] [] σ (T_X2_together_L43  n v1 v2 v3 v5 v6 σ) := by
  induction n with
  | zero => intros; exact r_none rfl
  | succ n ih =>
    intro v1 v2 v3 v5 v6 σ
    unfold T_X2_together_L43
    refine r_iload (pc := 43) X dX2_together_43 5 rfl ?_
    refine r_iload_n (pc := 45) X dX2_together_45 3 rfl rfl ?_
    refine r_icmp_gt (pc := 46) (tgt := 87) X dX2_together_46 (by decide) ?_ ?_
    · refine r_iload (pc := 87) X dX2_together_87 4 rfl ?_
      exact r_iret (pc := 89) X Z dX2_together_89 rfl
    · refine r_aload_n (pc := 49) X dX2_together_49 0 rfl rfl ?_
      refine r_geto (pc := 50) 2 X dX2_together_50 fl_X2_16 rfl (by decide) ?_
      refine r_iconst (pc := 53) X dX2_together_53 kc_1 ?_
      refine r_callvV (pc := 54) X dX2_together_54 cf_X0_goHours ml_X2_107 (rf rfl rfl) hy oc_2.1 (hc_0 (by decide)) (fun b hb => m_X0_goHours (by decide) hb) rfl rfl (Nat.le_of_ble_eq_true rfl) (fun σ2 => ?_)
      refine r_aload_n (pc := 57) X dX2_together_57 0 rfl rfl ?_
      refine r_geto (pc := 58) 2 X dX2_together_58 fl_X2_16 rfl (by decide) ?_
      refine r_geta (pc := 61) X dX2_together_61 fl_X2_144 oc_2 (by decide) ?_
      refine r_iload_n (pc := 64) X dX2_together_64 1 rfl rfl ?_
      refine r_iald (pc := 65) X dX2_together_65 ar_2_10 (fun x3 => ?_)
      refine r_aload_n (pc := 66) X dX2_together_66 0 rfl rfl ?_
      refine r_geto (pc := 67) 2 X dX2_together_67 fl_X2_16 rfl (by decide) ?_
      refine r_geta (pc := 70) X dX2_together_70 fl_X2_144 oc_2 (by decide) ?_
      refine r_iload_n (pc := 73) X dX2_together_73 2 rfl rfl ?_
      refine r_iald (pc := 74) X dX2_together_74 ar_2_10 (fun x4 => ?_)
      refine r_icmp_ne (pc := 75) (tgt := 81) X dX2_together_75 (by decide) ?_ ?_
      · refine r_iinc (pc := 81) (lv' := [(0, .ref _), (1, .int _), (2, .int _), (3, .int _), (5, .int _)]) X dX2_together_81 5 rfl (congrArg (fun z => v6 + z) kc_1) (by decide) rfl (fun x5 => ?_)
        refine r_goto (pc := 84) (tgt := 43) X dX2_together_84 (by decide) ?_
        refine r_sub [1, 2, 3, 4, 5, 0] rfl ?_
        exact ih v1 v2 v3 v5 x5 σ2
      · refine r_iinc (pc := 78) (lv' := [(0, .ref _), (1, .int _), (2, .int _), (3, .int _), (6, .int _)]) X dX2_together_78 4 rfl (congrArg (fun z => v5 + z) kc_1) (by decide) rfl (fun x6 => ?_)
        refine r_iinc (pc := 81) (lv' := [(5, .int _), (0, .ref _), (1, .int _), (2, .int _), (3, .int _)]) X dX2_together_81 5 rfl (congrArg (fun z => v6 + z) kc_1) (by decide) rfl (fun x7 => ?_)
        refine r_goto (pc := 84) (tgt := 43) X dX2_together_84 (by decide) ?_
        refine r_sub [2, 3, 4, 5, 1, 0] rfl ?_
        exact ih v1 v2 v3 x6 x7 σ2

set_option maxRecDepth 100000 in
theorem m_X2_together {y : LY} {l : Launch}  {a0 : Int32} {a1 : Int32} {a2 : Int32} {σ : ST} {a : (Int32 × ST)} (h : T_X2_together a0 a1 a2 σ = some a) : MU y l yX2_together cX2_together 7 (some .int) (rmd 5) [.ref (ad y 0), .int a0, .int a1, .int a2] σ (xI a) := by
  refine MU.of (φ := xI) h (by decide +kernel) rfl (fun E X Z hy => ?_)
  have X : CX y l E cX2_together 7 RX2 (rmd 5) := X
  show WW y l E 7 _ 0 [(0, .ref (ad y 0)), (1, .int a0), (2, .int a1), (3, .int a2)] [] σ (T_X2_together a0 a1 a2 σ)
  unfold T_X2_together
  refine r_aload_n (pc := 0) X dX2_together_0 0 rfl rfl ?_
  refine r_iload_n (pc := 1) X dX2_together_1 1 rfl rfl ?_
  refine r_iload_n (pc := 2) X dX2_together_2 2 rfl rfl ?_
  refine r_callvp (pc := 3) X dX2_together_3 cf_X2_areTwo ml_X2_190 (rf rfl rfl) hy oc_0.1 hc_2 (fun b hb => m_X2_areTwo hb) rfl rfl (Nat.le_of_ble_eq_true rfl) (fun x1 => ?_)
  refine r_if_ne (pc := 6) (tgt := 15) X dX2_together_6 (by decide) ?_ ?_
  · refine r_iload_n (pc := 15) X dX2_together_15 3 rfl rfl ?_
    refine r_callsp (pc := 16) X dX2_together_16 cf_X2_wrongHours ml_X2_184 (rf rfl rfl) hy (fun b hb => m_X2_wrongHours hb) rfl rfl (Nat.le_of_ble_eq_true rfl) (fun x3 => ?_)
    refine r_istore (pc := 19) (lv' := [(4, .int _), (0, .ref _), (1, .int _), (2, .int _), (3, .int _)]) X dX2_together_19 (by decide) rfl ?_
    refine r_iload (pc := 21) X dX2_together_21 0 rfl ?_
    refine r_if_eq (pc := 23) (tgt := 33) X dX2_together_23 (by decide) ?_ ?_
    · refine r_aload_n (pc := 33) X dX2_together_33 1 rfl rfl ?_
      refine r_callvV (pc := 34) X dX2_together_34 cf_X2_think ml_X2_67 (rf rfl rfl) hy oc_0.1 hc_2 (fun b hb => m_X2_think hb) rfl rfl (Nat.le_of_ble_eq_true rfl) (fun σ6 => ?_)
      refine r_iconst (pc := 37) X dX2_together_37 kc_0 ?_
      refine r_istore (pc := 38) (lv' := [(5, .int _), (4, .int _), (0, .ref _), (1, .int _), (2, .int _), (3, .int _)]) X dX2_together_38 (by decide) rfl ?_
      refine r_iconst (pc := 40) X dX2_together_40 kc_1 ?_
      refine r_istore (pc := 41) (lv' := [(6, .int _), (5, .int _), (4, .int _), (0, .ref _), (1, .int _), (2, .int _), (3, .int _)]) X dX2_together_41 (by decide) rfl ?_
      refine r_sub [3, 4, 5, 6, 1, 0] rfl ?_
      exact s_X2_together_L43 X Z hy FU a0 a1 a2 0 1 σ6
    · refine r_aload_n (pc := 26) X dX2_together_26 1 rfl rfl ?_
      refine r_iload (pc := 27) X dX2_together_27 0 rfl ?_
      refine r_callvI (pc := 29) X dX2_together_29 cf_X2_refuse ml_X2_60 (rf rfl rfl) hy oc_0.1 hc_2 (fun b hb => m_X2_refuse hb) rfl rfl (Nat.le_of_ble_eq_true rfl) (fun x7 σ8 => ?_)
      exact r_iret (pc := 32) X Z dX2_together_32 rfl
  · refine r_aload_n (pc := 9) X dX2_together_9 0 rfl rfl ?_
    refine r_iconst (pc := 10) X dX2_together_10 kc_m1 ?_
    refine r_callvI (pc := 11) X dX2_together_11 cf_X2_refuse ml_X2_60 (rf rfl rfl) hy oc_0.1 hc_2 (fun b hb => m_X2_refuse hb) rfl rfl (Nat.le_of_ble_eq_true rfl) (fun x9 σ10 => ?_)
    exact r_iret (pc := 14) X Z dX2_together_14 rfl

set_option maxRecDepth 100000 in
theorem m_X2_rests {y : LY} {l : Launch}  {a0 : Int32} {a1 : Int32} {σ : ST} {a : (Int32 × ST)} (h : T_X2_rests a0 a1 σ = some a) : MU y l yX2_rests cX2_rests 4 (some .int) (rmd 5) [.ref (ad y 0), .int a0, .int a1] σ (xI a) := by
  refine MU.of (φ := xI) h (by decide +kernel) rfl (fun E X Z hy => ?_)
  have X : CX y l E cX2_rests 4 RX2 (rmd 5) := X
  show WW y l E 4 _ 0 [(0, .ref (ad y 0)), (1, .int a0), (2, .int a1)] [] σ (T_X2_rests a0 a1 σ)
  unfold T_X2_rests
  refine r_aload_n (pc := 0) X dX2_rests_0 0 rfl rfl ?_
  refine r_geto (pc := 1) 1 X dX2_rests_1 fl_X2_12 rfl (by decide) ?_
  refine r_iload_n (pc := 4) X dX2_rests_4 1 rfl rfl ?_
  refine r_callvp (pc := 5) X dX2_rests_5 cf_X0_hasBearer ml_X2_135 (rf rfl rfl) hy oc_1.1 (hc_0 (by decide)) (fun b hb => m_X0_hasBearer (by decide) hb) rfl rfl (Nat.le_of_ble_eq_true rfl) (fun x1 => ?_)
  refine r_if_ne (pc := 8) (tgt := 17) X dX2_rests_8 (by decide) ?_ ?_
  · refine r_iload_n (pc := 17) X dX2_rests_17 2 rfl rfl ?_
    refine r_callsp (pc := 18) X dX2_rests_18 cf_X2_wrongHours ml_X2_184 (rf rfl rfl) hy (fun b hb => m_X2_wrongHours hb) rfl rfl (Nat.le_of_ble_eq_true rfl) (fun x3 => ?_)
    refine r_istore_n (pc := 21) (lv' := [(3, .int _), (0, .ref _), (1, .int _), (2, .int _)]) X dX2_rests_21 rfl (by decide) rfl ?_
    refine r_iload_n (pc := 22) X dX2_rests_22 0 rfl rfl ?_
    refine r_if_eq (pc := 23) (tgt := 32) X dX2_rests_23 (by decide) ?_ ?_
    · refine r_aload_n (pc := 32) X dX2_rests_32 1 rfl rfl ?_
      refine r_callvV (pc := 33) X dX2_rests_33 cf_X2_think ml_X2_67 (rf rfl rfl) hy oc_0.1 hc_2 (fun b hb => m_X2_think hb) rfl rfl (Nat.le_of_ble_eq_true rfl) (fun σ6 => ?_)
      refine r_aload_n (pc := 36) X dX2_rests_36 1 rfl rfl ?_
      refine r_geto (pc := 37) 2 X dX2_rests_37 fl_X2_16 rfl (by decide) ?_
      refine r_iload_n (pc := 40) X dX2_rests_40 3 rfl rfl ?_
      refine r_callvV (pc := 41) X dX2_rests_41 cf_X0_goHours ml_X2_107 (rf rfl rfl) hy oc_2.1 (hc_0 (by decide)) (fun b hb => m_X0_goHours (by decide) hb) rfl rfl (Nat.le_of_ble_eq_true rfl) (fun σ8 => ?_)
      refine r_aload_n (pc := 44) X dX2_rests_44 1 rfl rfl ?_
      refine r_geto (pc := 45) 2 X dX2_rests_45 fl_X2_16 rfl (by decide) ?_
      refine r_geta (pc := 48) X dX2_rests_48 fl_X2_221 oc_2 (by decide) ?_
      refine r_iload_n (pc := 51) X dX2_rests_51 2 rfl rfl ?_
      refine r_iald (pc := 52) X dX2_rests_52 ar_2_16 (fun x9 => ?_)
      exact r_iret (pc := 53) X Z dX2_rests_53 rfl
    · refine r_aload_n (pc := 26) X dX2_rests_26 1 rfl rfl ?_
      refine r_iload_n (pc := 27) X dX2_rests_27 0 rfl rfl ?_
      refine r_callvI (pc := 28) X dX2_rests_28 cf_X2_refuse ml_X2_60 (rf rfl rfl) hy oc_0.1 hc_2 (fun b hb => m_X2_refuse hb) rfl rfl (Nat.le_of_ble_eq_true rfl) (fun x10 σ11 => ?_)
      exact r_iret (pc := 31) X Z dX2_rests_31 rfl
  · refine r_aload_n (pc := 11) X dX2_rests_11 0 rfl rfl ?_
    refine r_iconst (pc := 12) X dX2_rests_12 kc_m1 ?_
    refine r_callvI (pc := 13) X dX2_rests_13 cf_X2_refuse ml_X2_60 (rf rfl rfl) hy oc_0.1 hc_2 (fun b hb => m_X2_refuse hb) rfl rfl (Nat.le_of_ble_eq_true rfl) (fun x12 σ13 => ?_)
    exact r_iret (pc := 16) X Z dX2_rests_16 rfl

set_option maxRecDepth 100000 in
theorem s_X2_firstSnap_L6 {y : LY} {l : Launch} {E : ET} (X : CX y l E cX2_firstSnap 2 RX2 (rmd 5)) (Z : ZX E (some .int)) (hy : y.1 ≤ (eS E).heap.size)     (n : Nat) : ∀ (v1 : Int32) (σ : ST), WW y l E 2 (fun a => QM y E (xI a)) 6 [(0, .ref (ad y 0)), (1, .int v1)] [] σ (T_X2_firstSnap_L6  n v1 σ) := by
  induction n with
  | zero => intros; exact r_none rfl
  | succ n ih =>
    intro v1 σ
    unfold T_X2_firstSnap_L6
    refine r_iload_n (pc := 6) X dX2_firstSnap_6 1 rfl rfl ?_
    refine r_bipush (pc := 7) X dX2_firstSnap_7 kb_60 ?_
    refine r_icmp_gt (pc := 9) (tgt := 38) X dX2_firstSnap_9 (by decide) ?_ ?_
    · refine r_bipush (pc := 38) X dX2_firstSnap_38 kb_m9 ?_
      exact r_iret (pc := 40) X Z dX2_firstSnap_40 rfl
    · refine r_aload_n (pc := 12) X dX2_firstSnap_12 0 rfl rfl ?_
      refine r_geto (pc := 13) 2 X dX2_firstSnap_13 fl_X2_16 rfl (by decide) ?_
      refine r_iconst (pc := 16) X dX2_firstSnap_16 kc_1 ?_
      refine r_callvV (pc := 17) X dX2_firstSnap_17 cf_X0_goHours ml_X2_107 (rf rfl rfl) hy oc_2.1 (hc_0 (by decide)) (fun b hb => m_X0_goHours (by decide) hb) rfl rfl (Nat.le_of_ble_eq_true rfl) (fun σ2 => ?_)
      refine r_aload_n (pc := 20) X dX2_firstSnap_20 0 rfl rfl ?_
      refine r_geto (pc := 21) 2 X dX2_firstSnap_21 fl_X2_16 rfl (by decide) ?_
      refine r_geti (pc := 24) X dX2_firstSnap_24 fl_X2_181 oc_2 rfl (fun x3 => ?_)
      refine r_if_le (pc := 27) (tgt := 32) X dX2_firstSnap_27 (by decide) ?_ ?_
      · refine r_iinc (pc := 32) (lv' := [(0, .ref _)]) X dX2_firstSnap_32 1 rfl (congrArg (fun z => v1 + z) kc_1) (by decide) rfl (fun x4 => ?_)
        refine r_goto (pc := 35) (tgt := 6) X dX2_firstSnap_35 (by decide) ?_
        refine r_sub [1, 0] rfl ?_
        exact ih x4 σ2
      · refine r_iload_n (pc := 30) X dX2_firstSnap_30 1 rfl rfl ?_
        exact r_iret (pc := 31) X Z dX2_firstSnap_31 rfl

set_option maxRecDepth 100000 in
theorem m_X2_firstSnap {y : LY} {l : Launch}   {σ : ST} {a : (Int32 × ST)} (h : T_X2_firstSnap σ = some a) : MU y l yX2_firstSnap cX2_firstSnap 2 (some .int) (rmd 5) [.ref (ad y 0)] σ (xI a) := by
  refine MU.of (φ := xI) h (by decide +kernel) rfl (fun E X Z hy => ?_)
  have X : CX y l E cX2_firstSnap 2 RX2 (rmd 5) := X
  show WW y l E 2 _ 0 [(0, .ref (ad y 0))] [] σ (T_X2_firstSnap σ)
  unfold T_X2_firstSnap
  refine r_aload_n (pc := 0) X dX2_firstSnap_0 0 rfl rfl ?_
  refine r_callvV (pc := 1) X dX2_firstSnap_1 cf_X2_think ml_X2_67 (rf rfl rfl) hy oc_0.1 hc_2 (fun b hb => m_X2_think hb) rfl rfl (Nat.le_of_ble_eq_true rfl) (fun σ2 => ?_)
  refine r_iconst (pc := 4) X dX2_firstSnap_4 kc_1 ?_
  refine r_istore_n (pc := 5) (lv' := [(1, .int _), (0, .ref _)]) X dX2_firstSnap_5 rfl (by decide) rfl ?_
  refine r_sub [1, 0] rfl ?_
  exact s_X2_firstSnap_L6 X Z hy FU 1 σ2

set_option maxRecDepth 100000 in
theorem s_X2_busy_L32 {y : LY} {l : Launch} {E : ET} (X : CX y l E cX2_busy 5 RX2 (rmd 5)) (Z : ZX E (some .int)) (hy : y.1 ≤ (eS E).heap.size)     (n : Nat) : ∀ (v1 : Int32) (v2 : Int32) (v4 : Int32) (σ : ST), WW y l E 5 (fun a => QM y E (xI a)) 32 [(0, .ref (ad y 0)), (1, .int v1), (2, .int v2), (4, .int v4)] [] σ (T_X2_busy_L32  n v1 v2 v4 σ) := by
  induction n with
  | zero => intros; exact r_none rfl
  | succ n ih =>
    intro v1 v2 v4 σ
    unfold T_X2_busy_L32
    refine r_iload (pc := 32) X dX2_busy_32 3 rfl ?_
    refine r_iload_n (pc := 34) X dX2_busy_34 1 rfl rfl ?_
    refine r_icmp_gt (pc := 35) (tgt := 56) X dX2_busy_35 (by decide) ?_ ?_
    · refine r_aload_n (pc := 56) X dX2_busy_56 0 rfl rfl ?_
      refine r_callvp (pc := 57) X dX2_busy_57 cf_X2_fullestPlace ml_X2_208 (rf rfl rfl) hy oc_0.1 hc_2 (fun b hb => m_X2_fullestPlace hb) rfl rfl (Nat.le_of_ble_eq_true rfl) (fun x1 => ?_)
      refine r_istore (pc := 60) (lv' := [(4, .int _), (0, .ref _), (1, .int _), (2, .int _)]) X dX2_busy_60 (by decide) rfl ?_
      refine r_iload_n (pc := 62) X dX2_busy_62 3 rfl rfl ?_
      refine r_if_ne (pc := 63) (tgt := 71) X dX2_busy_63 (by decide) ?_ ?_
      · refine r_aload_n (pc := 71) X dX2_busy_71 1 rfl rfl ?_
        refine r_geta (pc := 72) X dX2_busy_72 fl_X2_50 oc_0 (by decide) ?_
        refine r_iload (pc := 75) X dX2_busy_75 0 rfl ?_
        refine r_iald (pc := 77) X dX2_busy_77 ar_0_11 (fun x3 => ?_)
        exact r_iret (pc := 78) X Z dX2_busy_78 rfl
      · refine r_iload (pc := 66) X dX2_busy_66 0 rfl ?_
        refine r_goto (pc := 68) (tgt := 78) X dX2_busy_68 (by decide) ?_
        exact r_iret (pc := 78) X Z dX2_busy_78 rfl
    · refine r_aload_n (pc := 38) X dX2_busy_38 0 rfl rfl ?_
      refine r_geto (pc := 39) 2 X dX2_busy_39 fl_X2_16 rfl (by decide) ?_
      refine r_iconst (pc := 42) X dX2_busy_42 kc_1 ?_
      refine r_callvV (pc := 43) X dX2_busy_43 cf_X0_goHours ml_X2_107 (rf rfl rfl) hy oc_2.1 (hc_0 (by decide)) (fun b hb => m_X0_goHours (by decide) hb) rfl rfl (Nat.le_of_ble_eq_true rfl) (fun σ5 => ?_)
      refine r_aload_n (pc := 46) X dX2_busy_46 0 rfl rfl ?_
      refine r_callvV (pc := 47) X dX2_busy_47 cf_X2_tallyPlaces ml_X2_205 (rf rfl rfl) hy oc_0.1 hc_2 (fun b hb => m_X2_tallyPlaces hb) rfl rfl (Nat.le_of_ble_eq_true rfl) (fun σ7 => ?_)
      refine r_iinc (pc := 50) (lv' := [(0, .ref _), (1, .int _), (2, .int _)]) X dX2_busy_50 3 rfl (congrArg (fun z => v4 + z) kc_1) (by decide) rfl (fun x8 => ?_)
      refine r_goto (pc := 53) (tgt := 32) X dX2_busy_53 (by decide) ?_
      refine r_sub [1, 2, 3, 0] rfl ?_
      exact ih v1 v2 x8 σ7

set_option maxRecDepth 100000 in
theorem m_X2_busy {y : LY} {l : Launch}  {a0 : Int32} {a1 : Int32} {σ : ST} {a : (Int32 × ST)} (h : T_X2_busy a0 a1 σ = some a) : MU y l yX2_busy cX2_busy 5 (some .int) (rmd 5) [.ref (ad y 0), .int a0, .int a1] σ (xI a) := by
  refine MU.of (φ := xI) h (by decide +kernel) rfl (fun E X Z hy => ?_)
  have X : CX y l E cX2_busy 5 RX2 (rmd 5) := X
  show WW y l E 5 _ 0 [(0, .ref (ad y 0)), (1, .int a0), (2, .int a1)] [] σ (T_X2_busy a0 a1 σ)
  unfold T_X2_busy
  refine r_iload_n (pc := 0) X dX2_busy_0 1 rfl rfl ?_
  refine r_iload_n (pc := 1) X dX2_busy_1 2 rfl rfl ?_
  refine r_iconst (pc := 2) X dX2_busy_2 kc_1 ?_
  refine r_callsp (pc := 3) X dX2_busy_3 cf_X2_wrongHoursOrWhat ml_X2_199 (rf rfl rfl) hy (fun b hb => m_X2_wrongHoursOrWhat hb) rfl rfl (Nat.le_of_ble_eq_true rfl) (fun x1 => ?_)
  refine r_istore_n (pc := 6) (lv' := [(3, .int _), (0, .ref _), (1, .int _), (2, .int _)]) X dX2_busy_6 rfl (by decide) rfl ?_
  refine r_iload_n (pc := 7) X dX2_busy_7 0 rfl rfl ?_
  refine r_if_eq (pc := 8) (tgt := 17) X dX2_busy_8 (by decide) ?_ ?_
  · refine r_aload_n (pc := 17) X dX2_busy_17 1 rfl rfl ?_
    refine r_callvV (pc := 18) X dX2_busy_18 cf_X2_think ml_X2_67 (rf rfl rfl) hy oc_0.1 hc_2 (fun b hb => m_X2_think hb) rfl rfl (Nat.le_of_ble_eq_true rfl) (fun σ4 => ?_)
    refine r_aload_n (pc := 21) X dX2_busy_21 1 rfl rfl ?_
    refine r_callvV (pc := 22) X dX2_busy_22 cf_X2_startPlaceTally ml_X2_202 (rf rfl rfl) hy oc_0.1 hc_2 (fun b hb => m_X2_startPlaceTally hb) rfl rfl (Nat.le_of_ble_eq_true rfl) (fun σ6 => ?_)
    refine r_aload_n (pc := 25) X dX2_busy_25 1 rfl rfl ?_
    refine r_callvV (pc := 26) X dX2_busy_26 cf_X2_tallyPlaces ml_X2_205 (rf rfl rfl) hy oc_0.1 hc_2 (fun b hb => m_X2_tallyPlaces hb) rfl rfl (Nat.le_of_ble_eq_true rfl) (fun σ8 => ?_)
    refine r_iconst (pc := 29) X dX2_busy_29 kc_1 ?_
    refine r_istore (pc := 30) (lv' := [(4, .int _), (3, .int _), (0, .ref _), (1, .int _), (2, .int _)]) X dX2_busy_30 (by decide) rfl ?_
    refine r_sub [2, 3, 4, 0] rfl ?_
    exact s_X2_busy_L32 X Z hy FU a0 a1 1 σ8
  · refine r_aload_n (pc := 11) X dX2_busy_11 1 rfl rfl ?_
    refine r_iload_n (pc := 12) X dX2_busy_12 0 rfl rfl ?_
    refine r_callvI (pc := 13) X dX2_busy_13 cf_X2_refuse ml_X2_60 (rf rfl rfl) hy oc_0.1 hc_2 (fun b hb => m_X2_refuse hb) rfl rfl (Nat.le_of_ble_eq_true rfl) (fun x9 σ10 => ?_)
    exact r_iret (pc := 16) X Z dX2_busy_16 rfl

set_option maxRecDepth 100000 in
theorem s_X2_gathering_L6 {y : LY} {l : Launch} {E : ET} (X : CX y l E cX2_gathering 2 RX2 (rmd 5)) (Z : ZX E (some .int)) (hy : y.1 ≤ (eS E).heap.size)     (n : Nat) : ∀ (v1 : Int32) (σ : ST), WW y l E 2 (fun a => QM y E (xI a)) 6 [(0, .ref (ad y 0)), (1, .int v1)] [] σ (T_X2_gathering_L6  n v1 σ) := by
  induction n with
  | zero => intros; exact r_none rfl
  | succ n ih =>
    intro v1 σ
    unfold T_X2_gathering_L6
    refine r_iload_n (pc := 6) X dX2_gathering_6 1 rfl rfl ?_
    refine r_bipush (pc := 7) X dX2_gathering_7 kb_60 ?_
    refine r_icmp_gt (pc := 9) (tgt := 38) X dX2_gathering_9 (by decide) ?_ ?_
    · refine r_bipush (pc := 38) X dX2_gathering_38 kb_m9 ?_
      exact r_iret (pc := 40) X Z dX2_gathering_40 rfl
    · refine r_aload_n (pc := 12) X dX2_gathering_12 0 rfl rfl ?_
      refine r_geto (pc := 13) 2 X dX2_gathering_13 fl_X2_16 rfl (by decide) ?_
      refine r_callvp (pc := 16) X dX2_gathering_16 cf_X0_allAtOnePlace ml_X2_224 (rf rfl rfl) hy oc_2.1 (hc_0 (by decide)) (fun b hb => m_X0_allAtOnePlace (by decide) hb) rfl rfl (Nat.le_of_ble_eq_true rfl) (fun x1 => ?_)
      refine r_if_eq (pc := 19) (tgt := 24) X dX2_gathering_19 (by decide) ?_ ?_
      · refine r_aload_n (pc := 24) X dX2_gathering_24 0 rfl rfl ?_
        refine r_geto (pc := 25) 2 X dX2_gathering_25 fl_X2_16 rfl (by decide) ?_
        refine r_iconst (pc := 28) X dX2_gathering_28 kc_1 ?_
        refine r_callvV (pc := 29) X dX2_gathering_29 cf_X0_goHours ml_X2_107 (rf rfl rfl) hy oc_2.1 (hc_0 (by decide)) (fun b hb => m_X0_goHours (by decide) hb) rfl rfl (Nat.le_of_ble_eq_true rfl) (fun σ4 => ?_)
        refine r_iinc (pc := 32) (lv' := [(0, .ref _)]) X dX2_gathering_32 1 rfl (congrArg (fun z => v1 + z) kc_1) (by decide) rfl (fun x5 => ?_)
        refine r_goto (pc := 35) (tgt := 6) X dX2_gathering_35 (by decide) ?_
        refine r_sub [1, 0] rfl ?_
        exact ih x5 σ4
      · refine r_iload_n (pc := 22) X dX2_gathering_22 1 rfl rfl ?_
        exact r_iret (pc := 23) X Z dX2_gathering_23 rfl

set_option maxRecDepth 100000 in
theorem m_X2_gathering {y : LY} {l : Launch}   {σ : ST} {a : (Int32 × ST)} (h : T_X2_gathering σ = some a) : MU y l yX2_gathering cX2_gathering 2 (some .int) (rmd 5) [.ref (ad y 0)] σ (xI a) := by
  refine MU.of (φ := xI) h (by decide +kernel) rfl (fun E X Z hy => ?_)
  have X : CX y l E cX2_gathering 2 RX2 (rmd 5) := X
  show WW y l E 2 _ 0 [(0, .ref (ad y 0))] [] σ (T_X2_gathering σ)
  unfold T_X2_gathering
  refine r_aload_n (pc := 0) X dX2_gathering_0 0 rfl rfl ?_
  refine r_callvV (pc := 1) X dX2_gathering_1 cf_X2_think ml_X2_67 (rf rfl rfl) hy oc_0.1 hc_2 (fun b hb => m_X2_think hb) rfl rfl (Nat.le_of_ble_eq_true rfl) (fun σ2 => ?_)
  refine r_iconst (pc := 4) X dX2_gathering_4 kc_0 ?_
  refine r_istore_n (pc := 5) (lv' := [(1, .int _), (0, .ref _)]) X dX2_gathering_5 rfl (by decide) rfl ?_
  refine r_sub [1, 0] rfl ?_
  exact s_X2_gathering_L6 X Z hy FU 0 σ2

set_option maxRecDepth 100000 in
theorem s_X2_farthest_L58 {y : LY} {l : Launch} {E : ET} (X : CX y l E cX2_farthest 9 RX2 (rmd 5)) (Z : ZX E (some .int)) (hy : y.1 ≤ (eS E).heap.size)   {K40 : Int32 → Int32 → Int32 → Int32 → ST → Option (Int32 × ST)} (hK40 : ∀ (v2 : Int32) (v4 : Int32) (v5 : Int32) (v6 : Int32) (σ : ST), WW y l E 9 (fun a => QM y E (xI a)) 40 [(0, .ref (ad y 0)), (2, .int v2), (4, .int v4), (5, .int v5), (6, .int v6)] [] σ (K40 v2 v4 v5 v6 σ)) (n : Nat) : ∀ (v2 : Int32) (v4 : Int32) (v5 : Int32) (v6 : Int32) (v7 : Int32) (σ : ST), WW y l E 9 (fun a => QM y E (xI a)) 58 [(0, .ref (ad y 0)), (2, .int v2), (4, .int v4), (5, .int v5), (6, .int v6), (7, .int v7)] [] σ (T_X2_farthest_L58 K40 n v2 v4 v5 v6 v7 σ) := by
  induction n with
  | zero => intros; exact r_none rfl
  | succ n ih =>
    intro v2 v4 v5 v6 v7 σ
    unfold T_X2_farthest_L58
    refine r_iload (pc := 58) X dX2_farthest_58 5 rfl ?_
    refine r_aload_n (pc := 60) X dX2_farthest_60 0 rfl rfl ?_
    refine r_geto (pc := 61) 2 X dX2_farthest_61 fl_X2_16 rfl (by decide) ?_
    refine r_geti (pc := 64) X dX2_farthest_64 fl_X2_159 oc_2 rfl (fun x1 => ?_)
    refine r_icmp_ge (pc := 67) (tgt := 122) X dX2_farthest_67 (by decide) ?_ ?_
    · refine r_iinc (pc := 122) (lv' := [(0, .ref _), (2, .int _), (4, .int _), (5, .int _), (7, .int _)]) X dX2_farthest_122 4 rfl (congrArg (fun z => v6 + z) kc_1) (by decide) rfl (fun x2 => ?_)
      refine r_goto (pc := 125) (tgt := 40) X dX2_farthest_125 (by decide) ?_
      refine r_sub [1, 2, 3, 4, 0] rfl ?_
      exact hK40 v2 v4 v5 x2 σ
    · refine r_aload_n (pc := 70) X dX2_farthest_70 0 rfl rfl ?_
      refine r_geto (pc := 71) 2 X dX2_farthest_71 fl_X2_16 rfl (by decide) ?_
      refine r_geta (pc := 74) X dX2_farthest_74 fl_X2_144 oc_2 (by decide) ?_
      refine r_iload (pc := 77) X dX2_farthest_77 4 rfl ?_
      refine r_iald (pc := 79) X dX2_farthest_79 ar_2_10 (fun x3 => ?_)
      refine r_aload_n (pc := 80) X dX2_farthest_80 0 rfl rfl ?_
      refine r_geto (pc := 81) 2 X dX2_farthest_81 fl_X2_16 rfl (by decide) ?_
      refine r_geta (pc := 84) X dX2_farthest_84 fl_X2_144 oc_2 (by decide) ?_
      refine r_iload (pc := 87) X dX2_farthest_87 5 rfl ?_
      refine r_iald (pc := 89) X dX2_farthest_89 ar_2_10 (fun x4 => ?_)
      refine r_callsp (pc := 90) X dX2_farthest_90 cf_X2_placesApart ml_X2_228 (rf rfl rfl) hy (fun b hb => m_X2_placesApart hb) rfl rfl (Nat.le_of_ble_eq_true rfl) (fun x5 => ?_)
      refine r_istore (pc := 93) (lv' := [(8, .int _), (0, .ref _), (2, .int _), (4, .int _), (5, .int _), (6, .int _), (7, .int _)]) X dX2_farthest_93 (by decide) rfl ?_
      refine r_iload (pc := 95) X dX2_farthest_95 0 rfl ?_
      refine r_iload (pc := 97) X dX2_farthest_97 4 rfl ?_
      refine r_icmp_le (pc := 99) (tgt := 116) X dX2_farthest_99 (by decide) ?_ ?_
      · refine r_iinc (pc := 116) (lv' := [(8, .int _), (0, .ref _), (2, .int _), (4, .int _), (5, .int _), (6, .int _)]) X dX2_farthest_116 6 rfl (congrArg (fun z => v7 + z) kc_1) (by decide) rfl (fun x7 => ?_)
        refine r_goto (pc := 119) (tgt := 58) X dX2_farthest_119 (by decide) ?_
        refine r_sub [2, 3, 4, 5, 6, 0] rfl ?_
        exact ih v2 v4 v5 v6 x7 σ
      · refine r_iload (pc := 102) X dX2_farthest_102 0 rfl ?_
        refine r_istore (pc := 104) (lv' := [(5, .int _), (8, .int _), (0, .ref _), (2, .int _), (4, .int _), (6, .int _), (7, .int _)]) X dX2_farthest_104 (by decide) rfl ?_
        refine r_bipush (pc := 106) X dX2_farthest_106 kb_10 ?_
        refine r_iload (pc := 108) X dX2_farthest_108 5 rfl ?_
        refine r_imul (pc := 110) X dX2_farthest_110 ?_
        refine r_iload (pc := 111) X dX2_farthest_111 6 rfl ?_
        refine r_iadd (pc := 113) X dX2_farthest_113 ?_
        refine r_vl (fun x8 => ?_)
        refine r_istore (pc := 114) (lv' := [(4, .int _), (5, .int _), (8, .int _), (0, .ref _), (2, .int _), (6, .int _), (7, .int _)]) X dX2_farthest_114 (by decide) rfl ?_
        refine r_iinc (pc := 116) (lv' := [(4, .int _), (5, .int _), (8, .int _), (0, .ref _), (2, .int _), (6, .int _)]) X dX2_farthest_116 6 rfl (congrArg (fun z => v7 + z) kc_1) (by decide) rfl (fun x9 => ?_)
        refine r_goto (pc := 119) (tgt := 58) X dX2_farthest_119 (by decide) ?_
        refine r_sub [4, 5, 1, 2, 6, 0] rfl ?_
        exact ih v2 x8 x5 v6 x9 σ

set_option maxRecDepth 100000 in
theorem s_X2_farthest_L40 {y : LY} {l : Launch} {E : ET} (X : CX y l E cX2_farthest 9 RX2 (rmd 5)) (Z : ZX E (some .int)) (hy : y.1 ≤ (eS E).heap.size)     (n : Nat) : ∀ (v2 : Int32) (v4 : Int32) (v5 : Int32) (v6 : Int32) (σ : ST), WW y l E 9 (fun a => QM y E (xI a)) 40 [(0, .ref (ad y 0)), (2, .int v2), (4, .int v4), (5, .int v5), (6, .int v6)] [] σ (T_X2_farthest_L40  n v2 v4 v5 v6 σ) := by
  induction n with
  | zero => intros; exact r_none rfl
  | succ n ih =>
    intro v2 v4 v5 v6 σ
    unfold T_X2_farthest_L40
    refine r_iload (pc := 40) X dX2_farthest_40 4 rfl ?_
    refine r_aload_n (pc := 42) X dX2_farthest_42 0 rfl rfl ?_
    refine r_geto (pc := 43) 2 X dX2_farthest_43 fl_X2_16 rfl (by decide) ?_
    refine r_geti (pc := 46) X dX2_farthest_46 fl_X2_159 oc_2 rfl (fun x1 => ?_)
    refine r_icmp_ge (pc := 49) (tgt := 128) X dX2_farthest_49 (by decide) ?_ ?_
    · refine r_iload_n (pc := 128) X dX2_farthest_128 1 rfl rfl ?_
      refine r_if_ne (pc := 129) (tgt := 137) X dX2_farthest_129 (by decide) ?_ ?_
      · refine r_iload (pc := 137) X dX2_farthest_137 3 rfl ?_
        exact r_iret (pc := 139) X Z dX2_farthest_139 rfl
      · refine r_iload (pc := 132) X dX2_farthest_132 2 rfl ?_
        refine r_goto (pc := 134) (tgt := 139) X dX2_farthest_134 (by decide) ?_
        exact r_iret (pc := 139) X Z dX2_farthest_139 rfl
    · refine r_iload (pc := 52) X dX2_farthest_52 4 rfl ?_
      refine r_iconst (pc := 54) X dX2_farthest_54 kc_1 ?_
      refine r_iadd (pc := 55) X dX2_farthest_55 ?_
      refine r_vl (fun x2 => ?_)
      refine r_istore (pc := 56) (lv' := [(7, .int _), (0, .ref _), (2, .int _), (4, .int _), (5, .int _), (6, .int _)]) X dX2_farthest_56 (by decide) rfl ?_
      refine r_sub [1, 2, 3, 4, 5, 0] rfl ?_
      exact s_X2_farthest_L58 X Z hy (fun v2 v4 v5 v6 s => ih v2 v4 v5 v6 s) FU v2 v4 v5 v6 x2 σ

set_option maxRecDepth 100000 in
theorem m_X2_farthest {y : LY} {l : Launch}  {a0 : Int32} {a1 : Int32} {σ : ST} {a : (Int32 × ST)} (h : T_X2_farthest a0 a1 σ = some a) : MU y l yX2_farthest cX2_farthest 9 (some .int) (rmd 5) [.ref (ad y 0), .int a0, .int a1] σ (xI a) := by
  refine MU.of (φ := xI) h (by decide +kernel) rfl (fun E X Z hy => ?_)
  have X : CX y l E cX2_farthest 9 RX2 (rmd 5) := X
  show WW y l E 9 _ 0 [(0, .ref (ad y 0)), (1, .int a0), (2, .int a1)] [] σ (T_X2_farthest a0 a1 σ)
  unfold T_X2_farthest
  refine r_iload_n (pc := 0) X dX2_farthest_0 1 rfl rfl ?_
  refine r_iload_n (pc := 1) X dX2_farthest_1 2 rfl rfl ?_
  refine r_iconst (pc := 2) X dX2_farthest_2 kc_1 ?_
  refine r_callsp (pc := 3) X dX2_farthest_3 cf_X2_wrongHoursOrWhat ml_X2_199 (rf rfl rfl) hy (fun b hb => m_X2_wrongHoursOrWhat hb) rfl rfl (Nat.le_of_ble_eq_true rfl) (fun x1 => ?_)
  refine r_istore_n (pc := 6) (lv' := [(3, .int _), (0, .ref _), (1, .int _), (2, .int _)]) X dX2_farthest_6 rfl (by decide) rfl ?_
  refine r_iload_n (pc := 7) X dX2_farthest_7 0 rfl rfl ?_
  refine r_if_eq (pc := 8) (tgt := 17) X dX2_farthest_8 (by decide) ?_ ?_
  · refine r_aload_n (pc := 17) X dX2_farthest_17 1 rfl rfl ?_
    refine r_callvV (pc := 18) X dX2_farthest_18 cf_X2_think ml_X2_67 (rf rfl rfl) hy oc_0.1 hc_2 (fun b hb => m_X2_think hb) rfl rfl (Nat.le_of_ble_eq_true rfl) (fun σ4 => ?_)
    refine r_aload_n (pc := 21) X dX2_farthest_21 1 rfl rfl ?_
    refine r_geto (pc := 22) 2 X dX2_farthest_22 fl_X2_16 rfl (by decide) ?_
    refine r_iload_n (pc := 25) X dX2_farthest_25 2 rfl rfl ?_
    refine r_callvV (pc := 26) X dX2_farthest_26 cf_X0_goHours ml_X2_107 (rf rfl rfl) hy oc_2.1 (hc_0 (by decide)) (fun b hb => m_X0_goHours (by decide) hb) rfl rfl (Nat.le_of_ble_eq_true rfl) (fun σ6 => ?_)
    refine r_bipush (pc := 29) X dX2_farthest_29 kb_m9 ?_
    refine r_istore (pc := 31) (lv' := [(4, .int _), (3, .int _), (0, .ref _), (1, .int _), (2, .int _)]) X dX2_farthest_31 (by decide) rfl ?_
    refine r_bipush (pc := 33) X dX2_farthest_33 kb_m9 ?_
    refine r_istore (pc := 35) (lv' := [(5, .int _), (4, .int _), (3, .int _), (0, .ref _), (1, .int _), (2, .int _)]) X dX2_farthest_35 (by decide) rfl ?_
    refine r_iconst (pc := 37) X dX2_farthest_37 kc_0 ?_
    refine r_istore (pc := 38) (lv' := [(6, .int _), (5, .int _), (4, .int _), (3, .int _), (0, .ref _), (1, .int _), (2, .int _)]) X dX2_farthest_38 (by decide) rfl ?_
    refine r_sub [4, 6, 2, 1, 0] rfl ?_
    exact s_X2_farthest_L40 X Z hy FU a1 ((-9)) ((-9)) 0 σ6
  · refine r_aload_n (pc := 11) X dX2_farthest_11 1 rfl rfl ?_
    refine r_iload_n (pc := 12) X dX2_farthest_12 0 rfl rfl ?_
    refine r_callvI (pc := 13) X dX2_farthest_13 cf_X2_refuse ml_X2_60 (rf rfl rfl) hy oc_0.1 hc_2 (fun b hb => m_X2_refuse hb) rfl rfl (Nat.le_of_ble_eq_true rfl) (fun x7 σ8 => ?_)
    exact r_iret (pc := 16) X Z dX2_farthest_16 rfl

set_option maxRecDepth 100000 in
theorem s_X2_firstAt_L3 {y : LY} {l : Launch} {E : ET} (X : CX y l E cX2_firstAt 5 RX2 (rmd 5)) (Z : ZX E (some .int)) (hy : y.1 ≤ (eS E).heap.size)     (n : Nat) : ∀ (v1 : Int32) (v2 : Int32) (v3 : Int32) (v4 : Int32) (σ : ST), WW y l E 5 (fun a => QM y E (xI a)) 3 [(0, .ref (ad y 0)), (1, .int v1), (2, .int v2), (3, .int v3), (4, .int v4)] [] σ (T_X2_firstAt_L3  n v1 v2 v3 v4 σ) := by
  induction n with
  | zero => intros; exact r_none rfl
  | succ n ih =>
    intro v1 v2 v3 v4 σ
    unfold T_X2_firstAt_L3
    refine r_iload (pc := 3) X dX2_firstAt_3 4 rfl ?_
    refine r_iload_n (pc := 5) X dX2_firstAt_5 3 rfl rfl ?_
    refine r_icmp_gt (pc := 6) (tgt := 39) X dX2_firstAt_6 (by decide) ?_ ?_
    · refine r_bipush (pc := 39) X dX2_firstAt_39 kb_61 ?_
      exact r_iret (pc := 41) X Z dX2_firstAt_41 rfl
    · refine r_aload_n (pc := 9) X dX2_firstAt_9 0 rfl rfl ?_
      refine r_geto (pc := 10) 2 X dX2_firstAt_10 fl_X2_16 rfl (by decide) ?_
      refine r_geta (pc := 13) X dX2_firstAt_13 fl_X2_144 oc_2 (by decide) ?_
      refine r_iload_n (pc := 16) X dX2_firstAt_16 1 rfl rfl ?_
      refine r_iald (pc := 17) X dX2_firstAt_17 ar_2_10 (fun x1 => ?_)
      refine r_iload_n (pc := 18) X dX2_firstAt_18 2 rfl rfl ?_
      refine r_icmp_ne (pc := 19) (tgt := 25) X dX2_firstAt_19 (by decide) ?_ ?_
      · refine r_aload_n (pc := 25) X dX2_firstAt_25 0 rfl rfl ?_
        refine r_geto (pc := 26) 2 X dX2_firstAt_26 fl_X2_16 rfl (by decide) ?_
        refine r_iconst (pc := 29) X dX2_firstAt_29 kc_1 ?_
        refine r_callvV (pc := 30) X dX2_firstAt_30 cf_X0_goHours ml_X2_107 (rf rfl rfl) hy oc_2.1 (hc_0 (by decide)) (fun b hb => m_X0_goHours (by decide) hb) rfl rfl (Nat.le_of_ble_eq_true rfl) (fun σ3 => ?_)
        refine r_iinc (pc := 33) (lv' := [(0, .ref _), (1, .int _), (2, .int _), (3, .int _)]) X dX2_firstAt_33 4 rfl (congrArg (fun z => v4 + z) kc_1) (by decide) rfl (fun x4 => ?_)
        refine r_goto (pc := 36) (tgt := 3) X dX2_firstAt_36 (by decide) ?_
        refine r_sub [1, 2, 3, 4, 0] rfl ?_
        exact ih v1 v2 v3 x4 σ3
      · refine r_iload (pc := 22) X dX2_firstAt_22 4 rfl ?_
        exact r_iret (pc := 24) X Z dX2_firstAt_24 rfl

set_option maxRecDepth 100000 in
theorem m_X2_firstAt {y : LY} {l : Launch}  {a0 : Int32} {a1 : Int32} {a2 : Int32} {σ : ST} {a : (Int32 × ST)} (h : T_X2_firstAt a0 a1 a2 σ = some a) : MU y l yX2_firstAt cX2_firstAt 5 (some .int) (rmd 5) [.ref (ad y 0), .int a0, .int a1, .int a2] σ (xI a) := by
  refine MU.of (φ := xI) h (by decide +kernel) rfl (fun E X Z hy => ?_)
  have X : CX y l E cX2_firstAt 5 RX2 (rmd 5) := X
  show WW y l E 5 _ 0 [(0, .ref (ad y 0)), (1, .int a0), (2, .int a1), (3, .int a2)] [] σ (T_X2_firstAt a0 a1 a2 σ)
  unfold T_X2_firstAt
  refine r_iconst (pc := 0) X dX2_firstAt_0 kc_0 ?_
  refine r_istore (pc := 1) (lv' := [(4, .int _), (0, .ref _), (1, .int _), (2, .int _), (3, .int _)]) X dX2_firstAt_1 (by decide) rfl ?_
  refine r_sub [1, 2, 3, 4, 0] rfl ?_
  exact s_X2_firstAt_L3 X Z hy FU a0 a1 a2 0 σ

set_option maxRecDepth 100000 in
theorem s_X2_bestBag_j18 {y : LY} {l : Launch} {E : ET} (X : CX y l E cX2_bestBag 8 RX2 (rmd 6)) (Z : ZX E (some .int)) (hy : y.1 ≤ (eS E).heap.size)     (σ : ST) : WW y l E 8 (fun a => QM y E (xI a)) 18 [(0, .ref (ad y 0))] [] σ (T_X2_bestBag_j18   σ) := by
  unfold T_X2_bestBag_j18
  refine r_aload_n (pc := 18) X dX2_bestBag_18 0 rfl rfl ?_
  refine r_iconst (pc := 19) X dX2_bestBag_19 kc_m1 ?_
  refine r_callvI (pc := 20) X dX2_bestBag_20 cf_X2_refuse ml_X2_60 (rf rfl rfl) hy oc_0.1 hc_2 (fun b hb => m_X2_refuse hb) rfl rfl (Nat.le_of_ble_eq_true rfl) (fun x1 σ2 => ?_)
  exact r_iret (pc := 23) X Z dX2_bestBag_23 rfl

set_option maxRecDepth 100000 in
theorem s_X2_bestBag_j33 {y : LY} {l : Launch} {E : ET} (X : CX y l E cX2_bestBag 8 RX2 (rmd 6)) (Z : ZX E (some .int)) (hy : y.1 ≤ (eS E).heap.size)     (σ : ST) : WW y l E 8 (fun a => QM y E (xI a)) 33 [(0, .ref (ad y 0))] [] σ (T_X2_bestBag_j33   σ) := by
  unfold T_X2_bestBag_j33
  refine r_aload_n (pc := 33) X dX2_bestBag_33 0 rfl rfl ?_
  refine r_bipush (pc := 34) X dX2_bestBag_34 kb_m2 ?_
  refine r_callvI (pc := 36) X dX2_bestBag_36 cf_X2_refuse ml_X2_60 (rf rfl rfl) hy oc_0.1 hc_2 (fun b hb => m_X2_refuse hb) rfl rfl (Nat.le_of_ble_eq_true rfl) (fun x1 σ2 => ?_)
  exact r_iret (pc := 39) X Z dX2_bestBag_39 rfl

set_option maxRecDepth 100000 in
theorem s_X2_bestBag_L51 {y : LY} {l : Launch} {E : ET} (X : CX y l E cX2_bestBag 8 RX2 (rmd 6)) (Z : ZX E (some .int)) (hy : y.1 ≤ (eS E).heap.size)     (n : Nat) : ∀ (v1 : Int32) (v2 : Int32) (v3 : Int32) (v4 : Int32) (v5 : Int32) (v6 : Int32) (σ : ST), WW y l E 8 (fun a => QM y E (xI a)) 51 [(0, .ref (ad y 0)), (1, .int v1), (2, .int v2), (3, .int v3), (4, .int v4), (5, .int v5), (6, .int v6)] [] σ (T_X2_bestBag_L51  n v1 v2 v3 v4 v5 v6 σ) := by
  induction n with
  | zero => intros; exact r_none rfl
  | succ n ih =>
    intro v1 v2 v3 v4 v5 v6 σ
    unfold T_X2_bestBag_L51
    refine r_iload (pc := 51) X dX2_bestBag_51 6 rfl ?_
    refine r_aload_n (pc := 53) X dX2_bestBag_53 0 rfl rfl ?_
    refine r_geto (pc := 54) 1 X dX2_bestBag_54 fl_X2_12 rfl (by decide) ?_
    refine r_geti (pc := 57) X dX2_bestBag_57 fl_X2_156 oc_1 rfl (fun x1 => ?_)
    refine r_icmp_ge (pc := 60) (tgt := 111) X dX2_bestBag_60 (by decide) ?_ ?_
    · refine r_iload_n (pc := 111) X dX2_bestBag_111 3 rfl rfl ?_
      refine r_if_ne (pc := 112) (tgt := 120) X dX2_bestBag_112 (by decide) ?_ ?_
      · refine r_iload (pc := 120) X dX2_bestBag_120 5 rfl ?_
        refine r_callsp (pc := 122) X dX2_bestBag_122 cf_X2_orNone ml_X2_196 (rf rfl rfl) hy (fun b hb => m_X2_orNone hb) rfl rfl (Nat.le_of_ble_eq_true rfl) (fun x2 => ?_)
        exact r_iret (pc := 125) X Z dX2_bestBag_125 rfl
      · refine r_iload (pc := 115) X dX2_bestBag_115 4 rfl ?_
        refine r_goto (pc := 117) (tgt := 125) X dX2_bestBag_117 (by decide) ?_
        exact r_iret (pc := 125) X Z dX2_bestBag_125 rfl
    · refine r_aload_n (pc := 63) X dX2_bestBag_63 0 rfl rfl ?_
      refine r_callvV (pc := 64) X dX2_bestBag_64 cf_X2_think ml_X2_67 (rf rfl rfl) hy oc_0.1 hc_2 (fun b hb => m_X2_think hb) rfl rfl (Nat.le_of_ble_eq_true rfl) (fun σ5 => ?_)
      refine r_aload_n (pc := 67) X dX2_bestBag_67 0 rfl rfl ?_
      refine r_geto (pc := 68) 2 X dX2_bestBag_68 fl_X2_16 rfl (by decide) ?_
      refine r_iload (pc := 71) X dX2_bestBag_71 6 rfl ?_
      refine r_iload_n (pc := 73) X dX2_bestBag_73 1 rfl rfl ?_
      refine r_callvI (pc := 74) X dX2_bestBag_74 cf_X0_hand ml_X2_94 (rf rfl rfl) hy oc_2.1 (hc_0 (by decide)) (fun b hb => m_X0_hand (by decide) hb) rfl rfl (Nat.le_of_ble_eq_true rfl) (fun x6 σ7 => ?_)
      refine r_pop (pc := 77) X dX2_bestBag_77 rfl ?_
      refine r_aload_n (pc := 78) X dX2_bestBag_78 0 rfl rfl ?_
      refine r_iload_n (pc := 79) X dX2_bestBag_79 1 rfl rfl ?_
      refine r_iload_n (pc := 80) X dX2_bestBag_80 2 rfl rfl ?_
      refine r_iload (pc := 81) X dX2_bestBag_81 5 rfl ?_
      refine r_iconst (pc := 83) X dX2_bestBag_83 kc_1 ?_
      refine r_isub (pc := 84) X dX2_bestBag_84 ?_
      refine r_callvI (pc := 85) X dX2_bestBag_85 cf_X2_firstAt ml_X2_232 (rf rfl rfl) hy oc_0.1 hc_2 (fun b hb => m_X2_firstAt hb) rfl rfl (Nat.le_of_ble_eq_true rfl) (fun x8 σ9 => ?_)
      refine r_istore (pc := 88) (lv' := [(7, .int _), (0, .ref _), (1, .int _), (2, .int _), (3, .int _), (4, .int _), (5, .int _), (6, .int _)]) X dX2_bestBag_88 (by decide) rfl ?_
      refine r_iload (pc := 90) X dX2_bestBag_90 0 rfl ?_
      refine r_iload (pc := 92) X dX2_bestBag_92 6 rfl ?_
      refine r_icmp_ge (pc := 94) (tgt := 105) X dX2_bestBag_94 (by decide) ?_ ?_
      · refine r_iinc (pc := 105) (lv' := [(7, .int _), (0, .ref _), (1, .int _), (2, .int _), (3, .int _), (4, .int _), (5, .int _)]) X dX2_bestBag_105 7 rfl (congrArg (fun z => v6 + z) kc_1) (by decide) rfl (fun x10 => ?_)
        refine r_goto (pc := 108) (tgt := 51) X dX2_bestBag_108 (by decide) ?_
        refine r_sub [2, 3, 4, 5, 6, 7, 0] rfl ?_
        exact ih v1 v2 v3 v4 v5 x10 σ9
      · refine r_iload (pc := 97) X dX2_bestBag_97 0 rfl ?_
        refine r_istore (pc := 99) (lv' := [(5, .int _), (7, .int _), (0, .ref _), (1, .int _), (2, .int _), (3, .int _), (4, .int _), (6, .int _)]) X dX2_bestBag_99 (by decide) rfl ?_
        refine r_iload (pc := 101) X dX2_bestBag_101 7 rfl ?_
        refine r_istore (pc := 103) (lv' := [(4, .int _), (5, .int _), (7, .int _), (0, .ref _), (1, .int _), (2, .int _), (3, .int _), (6, .int _)]) X dX2_bestBag_103 (by decide) rfl ?_
        refine r_iinc (pc := 105) (lv' := [(4, .int _), (5, .int _), (7, .int _), (0, .ref _), (1, .int _), (2, .int _), (3, .int _)]) X dX2_bestBag_105 7 rfl (congrArg (fun z => v6 + z) kc_1) (by decide) rfl (fun x11 => ?_)
        refine r_goto (pc := 108) (tgt := 51) X dX2_bestBag_108 (by decide) ?_
        refine r_sub [4, 5, 6, 7, 1, 2, 0] rfl ?_
        exact ih v1 v2 v3 v6 x8 x11 σ9

set_option maxRecDepth 100000 in
theorem m_X2_bestBag {y : LY} {l : Launch}  {a0 : Int32} {a1 : Int32} {a2 : Int32} {σ : ST} {a : (Int32 × ST)} (h : T_X2_bestBag a0 a1 a2 σ = some a) : MU y l yX2_bestBag cX2_bestBag 8 (some .int) (rmd 6) [.ref (ad y 0), .int a0, .int a1, .int a2] σ (xI a) := by
  refine MU.of (φ := xI) h (by decide +kernel) rfl (fun E X Z hy => ?_)
  have X : CX y l E cX2_bestBag 8 RX2 (rmd 6) := X
  show WW y l E 8 _ 0 [(0, .ref (ad y 0)), (1, .int a0), (2, .int a1), (3, .int a2)] [] σ (T_X2_bestBag a0 a1 a2 σ)
  unfold T_X2_bestBag
  refine r_aload_n (pc := 0) X dX2_bestBag_0 0 rfl rfl ?_
  refine r_geto (pc := 1) 1 X dX2_bestBag_1 fl_X2_12 rfl (by decide) ?_
  refine r_iload_n (pc := 4) X dX2_bestBag_4 1 rfl rfl ?_
  refine r_callvp (pc := 5) X dX2_bestBag_5 cf_X0_hasBearer ml_X2_135 (rf rfl rfl) hy oc_1.1 (hc_0 (by decide)) (fun b hb => m_X0_hasBearer (by decide) hb) rfl rfl (Nat.le_of_ble_eq_true rfl) (fun x1 => ?_)
  refine r_if_eq (pc := 8) (tgt := 18) X dX2_bestBag_8 (by decide) ?_ ?_
  · refine r_sub [0] rfl ?_
    exact s_X2_bestBag_j18 X Z hy σ
  · refine r_iload_n (pc := 11) X dX2_bestBag_11 2 rfl rfl ?_
    refine r_callsp (pc := 12) X dX2_bestBag_12 cf_X2_isPlace ml_X2_175 (rf rfl rfl) hy (fun b hb => m_X2_isPlace hb) rfl rfl (Nat.le_of_ble_eq_true rfl) (fun x3 => ?_)
    refine r_if_ne (pc := 15) (tgt := 24) X dX2_bestBag_15 (by decide) ?_ ?_
    · refine r_iload_n (pc := 24) X dX2_bestBag_24 3 rfl rfl ?_
      refine r_if_lt (pc := 25) (tgt := 33) X dX2_bestBag_25 (by decide) ?_ ?_
      · refine r_sub [0] rfl ?_
        exact s_X2_bestBag_j33 X Z hy σ
      · refine r_iload_n (pc := 28) X dX2_bestBag_28 3 rfl rfl ?_
        refine r_iconst (pc := 29) X dX2_bestBag_29 kc_1 ?_
        refine r_icmp_le (pc := 30) (tgt := 40) X dX2_bestBag_30 (by decide) ?_ ?_
        · refine r_bipush (pc := 40) X dX2_bestBag_40 kb_m9 ?_
          refine r_istore (pc := 42) (lv' := [(4, .int _), (0, .ref _), (1, .int _), (2, .int _), (3, .int _)]) X dX2_bestBag_42 (by decide) rfl ?_
          refine r_bipush (pc := 44) X dX2_bestBag_44 kb_61 ?_
          refine r_istore (pc := 46) (lv' := [(5, .int _), (4, .int _), (0, .ref _), (1, .int _), (2, .int _), (3, .int _)]) X dX2_bestBag_46 (by decide) rfl ?_
          refine r_iconst (pc := 48) X dX2_bestBag_48 kc_0 ?_
          refine r_istore (pc := 49) (lv' := [(6, .int _), (5, .int _), (4, .int _), (0, .ref _), (1, .int _), (2, .int _), (3, .int _)]) X dX2_bestBag_49 (by decide) rfl ?_
          refine r_sub [3, 4, 5, 6, 2, 1, 0] rfl ?_
          exact s_X2_bestBag_L51 X Z hy FU a0 a1 a2 ((-9)) 61 0 σ
        · refine r_sub [0] rfl ?_
          exact s_X2_bestBag_j33 X Z hy σ
    · refine r_sub [0] rfl ?_
      exact s_X2_bestBag_j18 X Z hy σ

set_option maxRecDepth 100000 in
theorem s_X2_hers_L23 {y : LY} {l : Launch} {E : ET} (X : CX y l E cX2_hers 3 RX2 (rmd 5)) (Z : ZX E (some .int)) (hy : y.1 ≤ (eS E).heap.size)     (n : Nat) : ∀ (v1 : Int32) (v2 : Int32) (σ : ST), WW y l E 3 (fun a => QM y E (xI a)) 23 [(0, .ref (ad y 0)), (1, .int v1), (2, .int v2)] [] σ (T_X2_hers_L23  n v1 v2 σ) := by
  induction n with
  | zero => intros; exact r_none rfl
  | succ n ih =>
    intro v1 v2 σ
    unfold T_X2_hers_L23
    refine r_iload_n (pc := 23) X dX2_hers_23 2 rfl rfl ?_
    refine r_bipush (pc := 24) X dX2_hers_24 kb_60 ?_
    refine r_icmp_gt (pc := 26) (tgt := 56) X dX2_hers_26 (by decide) ?_ ?_
    · refine r_bipush (pc := 56) X dX2_hers_56 kb_m9 ?_
      exact r_iret (pc := 58) X Z dX2_hers_58 rfl
    · refine r_aload_n (pc := 29) X dX2_hers_29 0 rfl rfl ?_
      refine r_geto (pc := 30) 2 X dX2_hers_30 fl_X2_16 rfl (by decide) ?_
      refine r_iload_n (pc := 33) X dX2_hers_33 1 rfl rfl ?_
      refine r_callvp (pc := 34) X dX2_hers_34 cf_X0_isLed ml_X2_153 (rf rfl rfl) hy oc_2.1 (hc_0 (by decide)) (fun b hb => m_X0_isLed (by decide) hb) rfl rfl (Nat.le_of_ble_eq_true rfl) (fun x1 => ?_)
      refine r_if_eq (pc := 37) (tgt := 42) X dX2_hers_37 (by decide) ?_ ?_
      · refine r_aload_n (pc := 42) X dX2_hers_42 0 rfl rfl ?_
        refine r_geto (pc := 43) 2 X dX2_hers_43 fl_X2_16 rfl (by decide) ?_
        refine r_iconst (pc := 46) X dX2_hers_46 kc_1 ?_
        refine r_callvV (pc := 47) X dX2_hers_47 cf_X0_goHours ml_X2_107 (rf rfl rfl) hy oc_2.1 (hc_0 (by decide)) (fun b hb => m_X0_goHours (by decide) hb) rfl rfl (Nat.le_of_ble_eq_true rfl) (fun σ4 => ?_)
        refine r_iinc (pc := 50) (lv' := [(0, .ref _), (1, .int _)]) X dX2_hers_50 2 rfl (congrArg (fun z => v2 + z) kc_1) (by decide) rfl (fun x5 => ?_)
        refine r_goto (pc := 53) (tgt := 23) X dX2_hers_53 (by decide) ?_
        refine r_sub [1, 2, 0] rfl ?_
        exact ih v1 x5 σ4
      · refine r_iload_n (pc := 40) X dX2_hers_40 2 rfl rfl ?_
        exact r_iret (pc := 41) X Z dX2_hers_41 rfl

set_option maxRecDepth 100000 in
theorem m_X2_hers {y : LY} {l : Launch}  {a0 : Int32} {σ : ST} {a : (Int32 × ST)} (h : T_X2_hers a0 σ = some a) : MU y l yX2_hers cX2_hers 3 (some .int) (rmd 5) [.ref (ad y 0), .int a0] σ (xI a) := by
  refine MU.of (φ := xI) h (by decide +kernel) rfl (fun E X Z hy => ?_)
  have X : CX y l E cX2_hers 3 RX2 (rmd 5) := X
  show WW y l E 3 _ 0 [(0, .ref (ad y 0)), (1, .int a0)] [] σ (T_X2_hers a0 σ)
  unfold T_X2_hers
  refine r_aload_n (pc := 0) X dX2_hers_0 0 rfl rfl ?_
  refine r_geto (pc := 1) 1 X dX2_hers_1 fl_X2_12 rfl (by decide) ?_
  refine r_iload_n (pc := 4) X dX2_hers_4 1 rfl rfl ?_
  refine r_callvp (pc := 5) X dX2_hers_5 cf_X0_hasBearer ml_X2_135 (rf rfl rfl) hy oc_1.1 (hc_0 (by decide)) (fun b hb => m_X0_hasBearer (by decide) hb) rfl rfl (Nat.le_of_ble_eq_true rfl) (fun x1 => ?_)
  refine r_if_ne (pc := 8) (tgt := 17) X dX2_hers_8 (by decide) ?_ ?_
  · refine r_aload_n (pc := 17) X dX2_hers_17 0 rfl rfl ?_
    refine r_callvV (pc := 18) X dX2_hers_18 cf_X2_think ml_X2_67 (rf rfl rfl) hy oc_0.1 hc_2 (fun b hb => m_X2_think hb) rfl rfl (Nat.le_of_ble_eq_true rfl) (fun σ4 => ?_)
    refine r_iconst (pc := 21) X dX2_hers_21 kc_0 ?_
    refine r_istore_n (pc := 22) (lv' := [(2, .int _), (0, .ref _), (1, .int _)]) X dX2_hers_22 rfl (by decide) rfl ?_
    refine r_sub [1, 2, 0] rfl ?_
    exact s_X2_hers_L23 X Z hy FU a0 0 σ4
  · refine r_aload_n (pc := 11) X dX2_hers_11 0 rfl rfl ?_
    refine r_iconst (pc := 12) X dX2_hers_12 kc_m1 ?_
    refine r_callvI (pc := 13) X dX2_hers_13 cf_X2_refuse ml_X2_60 (rf rfl rfl) hy oc_0.1 hc_2 (fun b hb => m_X2_refuse hb) rfl rfl (Nat.le_of_ble_eq_true rfl) (fun x5 σ6 => ?_)
    exact r_iret (pc := 16) X Z dX2_hers_16 rfl

set_option maxRecDepth 100000 in
theorem s_X2_errand_j18 {y : LY} {l : Launch} {E : ET} (X : CX y l E cX2_errand 3 RX2 (rmd 6)) (Z : ZX E (some .int)) (hy : y.1 ≤ (eS E).heap.size)     (σ : ST) : WW y l E 3 (fun a => QM y E (xI a)) 18 [(0, .ref (ad y 0))] [] σ (T_X2_errand_j18   σ) := by
  unfold T_X2_errand_j18
  refine r_aload_n (pc := 18) X dX2_errand_18 0 rfl rfl ?_
  refine r_iconst (pc := 19) X dX2_errand_19 kc_m1 ?_
  refine r_callvI (pc := 20) X dX2_errand_20 cf_X2_refuse ml_X2_60 (rf rfl rfl) hy oc_0.1 hc_2 (fun b hb => m_X2_refuse hb) rfl rfl (Nat.le_of_ble_eq_true rfl) (fun x1 σ2 => ?_)
  exact r_iret (pc := 23) X Z dX2_errand_23 rfl

set_option maxRecDepth 100000 in
theorem m_X2_errand {y : LY} {l : Launch}  {a0 : Int32} {a1 : Int32} {σ : ST} {a : (Int32 × ST)} (h : T_X2_errand a0 a1 σ = some a) : MU y l yX2_errand cX2_errand 3 (some .int) (rmd 6) [.ref (ad y 0), .int a0, .int a1] σ (xI a) := by
  refine MU.of (φ := xI) h (by decide +kernel) rfl (fun E X Z hy => ?_)
  have X : CX y l E cX2_errand 3 RX2 (rmd 6) := X
  show WW y l E 3 _ 0 [(0, .ref (ad y 0)), (1, .int a0), (2, .int a1)] [] σ (T_X2_errand a0 a1 σ)
  unfold T_X2_errand
  refine r_aload_n (pc := 0) X dX2_errand_0 0 rfl rfl ?_
  refine r_geto (pc := 1) 1 X dX2_errand_1 fl_X2_12 rfl (by decide) ?_
  refine r_iload_n (pc := 4) X dX2_errand_4 1 rfl rfl ?_
  refine r_callvp (pc := 5) X dX2_errand_5 cf_X0_hasBearer ml_X2_135 (rf rfl rfl) hy oc_1.1 (hc_0 (by decide)) (fun b hb => m_X0_hasBearer (by decide) hb) rfl rfl (Nat.le_of_ble_eq_true rfl) (fun x1 => ?_)
  refine r_if_eq (pc := 8) (tgt := 18) X dX2_errand_8 (by decide) ?_ ?_
  · refine r_sub [0] rfl ?_
    exact s_X2_errand_j18 X Z hy σ
  · refine r_iload_n (pc := 11) X dX2_errand_11 2 rfl rfl ?_
    refine r_callsp (pc := 12) X dX2_errand_12 cf_X2_isPlace ml_X2_175 (rf rfl rfl) hy (fun b hb => m_X2_isPlace hb) rfl rfl (Nat.le_of_ble_eq_true rfl) (fun x3 => ?_)
    refine r_if_ne (pc := 15) (tgt := 24) X dX2_errand_15 (by decide) ?_ ?_
    · refine r_aload_n (pc := 24) X dX2_errand_24 0 rfl rfl ?_
      refine r_callvV (pc := 25) X dX2_errand_25 cf_X2_think ml_X2_67 (rf rfl rfl) hy oc_0.1 hc_2 (fun b hb => m_X2_think hb) rfl rfl (Nat.le_of_ble_eq_true rfl) (fun σ6 => ?_)
      refine r_aload_n (pc := 28) X dX2_errand_28 0 rfl rfl ?_
      refine r_geto (pc := 29) 2 X dX2_errand_29 fl_X2_16 rfl (by decide) ?_
      refine r_geta (pc := 32) X dX2_errand_32 fl_X2_141 oc_2 (by decide) ?_
      refine r_iload_n (pc := 35) X dX2_errand_35 1 rfl rfl ?_
      refine r_iload_n (pc := 36) X dX2_errand_36 2 rfl rfl ?_
      refine r_iast (pc := 37) X dX2_errand_37 ar_2_9 (fun σ7 => ?_)
      refine r_aload_n (pc := 38) X dX2_errand_38 0 rfl rfl ?_
      refine r_iload_n (pc := 39) X dX2_errand_39 1 rfl rfl ?_
      refine r_iload_n (pc := 40) X dX2_errand_40 2 rfl rfl ?_
      refine r_bipush (pc := 41) X dX2_errand_41 kb_60 ?_
      refine r_callvI (pc := 43) X dX2_errand_43 cf_X2_firstAt ml_X2_232 (rf rfl rfl) hy oc_0.1 hc_2 (fun b hb => m_X2_firstAt hb) rfl rfl (Nat.le_of_ble_eq_true rfl) (fun x8 σ9 => ?_)
      refine r_callsp (pc := 46) X dX2_errand_46 cf_X2_orNone ml_X2_196 (rf rfl rfl) hy (fun b hb => m_X2_orNone hb) rfl rfl (Nat.le_of_ble_eq_true rfl) (fun x10 => ?_)
      exact r_iret (pc := 49) X Z dX2_errand_49 rfl
    · refine r_sub [0] rfl ?_
      exact s_X2_errand_j18 X Z hy σ

set_option maxRecDepth 100000 in
theorem s_X2_defy_j18 {y : LY} {l : Launch} {E : ET} (X : CX y l E cX2_defy 6 RX2 (rmd 6)) (Z : ZX E (some .int)) (hy : y.1 ≤ (eS E).heap.size)     (σ : ST) : WW y l E 6 (fun a => QM y E (xI a)) 18 [(0, .ref (ad y 0))] [] σ (T_X2_defy_j18   σ) := by
  unfold T_X2_defy_j18
  refine r_aload_n (pc := 18) X dX2_defy_18 0 rfl rfl ?_
  refine r_iconst (pc := 19) X dX2_defy_19 kc_m1 ?_
  refine r_callvI (pc := 20) X dX2_defy_20 cf_X2_refuse ml_X2_60 (rf rfl rfl) hy oc_0.1 hc_2 (fun b hb => m_X2_refuse hb) rfl rfl (Nat.le_of_ble_eq_true rfl) (fun x1 σ2 => ?_)
  exact r_iret (pc := 23) X Z dX2_defy_23 rfl

set_option maxRecDepth 100000 in
theorem s_X2_defy_L45 {y : LY} {l : Launch} {E : ET} (X : CX y l E cX2_defy 6 RX2 (rmd 6)) (Z : ZX E (some .int)) (hy : y.1 ≤ (eS E).heap.size)     (n : Nat) : ∀ (v1 : Int32) (v2 : Int32) (v3 : Int32) (v5 : Int32) (σ : ST), WW y l E 6 (fun a => QM y E (xI a)) 45 [(0, .ref (ad y 0)), (1, .int v1), (2, .int v2), (3, .int v3), (5, .int v5)] [] σ (T_X2_defy_L45  n v1 v2 v3 v5 σ) := by
  induction n with
  | zero => intros; exact r_none rfl
  | succ n ih =>
    intro v1 v2 v3 v5 σ
    unfold T_X2_defy_L45
    refine r_iload (pc := 45) X dX2_defy_45 4 rfl ?_
    refine r_bipush (pc := 47) X dX2_defy_47 kb_10 ?_
    refine r_icmp_ge (pc := 49) (tgt := 97) X dX2_defy_49 (by decide) ?_ ?_
    · refine r_bipush (pc := 97) X dX2_defy_97 kb_m9 ?_
      exact r_iret (pc := 99) X Z dX2_defy_99 rfl
    · refine r_aload_n (pc := 52) X dX2_defy_52 0 rfl rfl ?_
      refine r_callvV (pc := 53) X dX2_defy_53 cf_X2_think ml_X2_67 (rf rfl rfl) hy oc_0.1 hc_2 (fun b hb => m_X2_think hb) rfl rfl (Nat.le_of_ble_eq_true rfl) (fun σ2 => ?_)
      refine r_aload_n (pc := 56) X dX2_defy_56 0 rfl rfl ?_
      refine r_geto (pc := 57) 2 X dX2_defy_57 fl_X2_16 rfl (by decide) ?_
      refine r_geta (pc := 60) X dX2_defy_60 fl_X2_141 oc_2 (by decide) ?_
      refine r_iload_n (pc := 63) X dX2_defy_63 1 rfl rfl ?_
      refine r_iload_n (pc := 64) X dX2_defy_64 2 rfl rfl ?_
      refine r_iast (pc := 65) X dX2_defy_65 ar_2_9 (fun σ3 => ?_)
      refine r_aload_n (pc := 66) X dX2_defy_66 0 rfl rfl ?_
      refine r_geto (pc := 67) 2 X dX2_defy_67 fl_X2_16 rfl (by decide) ?_
      refine r_geta (pc := 70) X dX2_defy_70 fl_X2_138 oc_2 (by decide) ?_
      refine r_iload_n (pc := 73) X dX2_defy_73 1 rfl rfl ?_
      refine r_iload (pc := 74) X dX2_defy_74 4 rfl ?_
      refine r_iast (pc := 76) X dX2_defy_76 ar_2_8 (fun σ4 => ?_)
      refine r_aload_n (pc := 77) X dX2_defy_77 0 rfl rfl ?_
      refine r_iload_n (pc := 78) X dX2_defy_78 1 rfl rfl ?_
      refine r_iload_n (pc := 79) X dX2_defy_79 2 rfl rfl ?_
      refine r_iload_n (pc := 80) X dX2_defy_80 3 rfl rfl ?_
      refine r_callvI (pc := 81) X dX2_defy_81 cf_X2_firstAt ml_X2_232 (rf rfl rfl) hy oc_0.1 hc_2 (fun b hb => m_X2_firstAt hb) rfl rfl (Nat.le_of_ble_eq_true rfl) (fun x5 σ6 => ?_)
      refine r_iload_n (pc := 84) X dX2_defy_84 3 rfl rfl ?_
      refine r_icmp_gt (pc := 85) (tgt := 91) X dX2_defy_85 (by decide) ?_ ?_
      · refine r_iinc (pc := 91) (lv' := [(0, .ref _), (1, .int _), (2, .int _), (3, .int _)]) X dX2_defy_91 4 rfl (congrArg (fun z => v5 + z) kc_1) (by decide) rfl (fun x7 => ?_)
        refine r_goto (pc := 94) (tgt := 45) X dX2_defy_94 (by decide) ?_
        refine r_sub [1, 2, 3, 4, 0] rfl ?_
        exact ih v1 v2 v3 x7 σ6
      · refine r_iload (pc := 88) X dX2_defy_88 4 rfl ?_
        exact r_iret (pc := 90) X Z dX2_defy_90 rfl

set_option maxRecDepth 100000 in
theorem m_X2_defy {y : LY} {l : Launch}  {a0 : Int32} {a1 : Int32} {a2 : Int32} {σ : ST} {a : (Int32 × ST)} (h : T_X2_defy a0 a1 a2 σ = some a) : MU y l yX2_defy cX2_defy 6 (some .int) (rmd 6) [.ref (ad y 0), .int a0, .int a1, .int a2] σ (xI a) := by
  refine MU.of (φ := xI) h (by decide +kernel) rfl (fun E X Z hy => ?_)
  have X : CX y l E cX2_defy 6 RX2 (rmd 6) := X
  show WW y l E 6 _ 0 [(0, .ref (ad y 0)), (1, .int a0), (2, .int a1), (3, .int a2)] [] σ (T_X2_defy a0 a1 a2 σ)
  unfold T_X2_defy
  refine r_aload_n (pc := 0) X dX2_defy_0 0 rfl rfl ?_
  refine r_geto (pc := 1) 1 X dX2_defy_1 fl_X2_12 rfl (by decide) ?_
  refine r_iload_n (pc := 4) X dX2_defy_4 1 rfl rfl ?_
  refine r_callvp (pc := 5) X dX2_defy_5 cf_X0_hasBearer ml_X2_135 (rf rfl rfl) hy oc_1.1 (hc_0 (by decide)) (fun b hb => m_X0_hasBearer (by decide) hb) rfl rfl (Nat.le_of_ble_eq_true rfl) (fun x1 => ?_)
  refine r_if_eq (pc := 8) (tgt := 18) X dX2_defy_8 (by decide) ?_ ?_
  · refine r_sub [0] rfl ?_
    exact s_X2_defy_j18 X Z hy σ
  · refine r_iload_n (pc := 11) X dX2_defy_11 2 rfl rfl ?_
    refine r_callsp (pc := 12) X dX2_defy_12 cf_X2_isPlace ml_X2_175 (rf rfl rfl) hy (fun b hb => m_X2_isPlace hb) rfl rfl (Nat.le_of_ble_eq_true rfl) (fun x3 => ?_)
    refine r_if_ne (pc := 15) (tgt := 24) X dX2_defy_15 (by decide) ?_ ?_
    · refine r_iload_n (pc := 24) X dX2_defy_24 3 rfl rfl ?_
      refine r_callsp (pc := 25) X dX2_defy_25 cf_X2_wrongHours ml_X2_184 (rf rfl rfl) hy (fun b hb => m_X2_wrongHours hb) rfl rfl (Nat.le_of_ble_eq_true rfl) (fun x5 => ?_)
      refine r_istore (pc := 28) (lv' := [(4, .int _), (0, .ref _), (1, .int _), (2, .int _), (3, .int _)]) X dX2_defy_28 (by decide) rfl ?_
      refine r_iload (pc := 30) X dX2_defy_30 0 rfl ?_
      refine r_if_eq (pc := 32) (tgt := 42) X dX2_defy_32 (by decide) ?_ ?_
      · refine r_iconst (pc := 42) X dX2_defy_42 kc_0 ?_
        refine r_istore (pc := 43) (lv' := [(5, .int _), (4, .int _), (0, .ref _), (1, .int _), (2, .int _), (3, .int _)]) X dX2_defy_43 (by decide) rfl ?_
        refine r_sub [2, 3, 4, 5, 0] rfl ?_
        exact s_X2_defy_L45 X Z hy FU a0 a1 a2 0 σ
      · refine r_aload_n (pc := 35) X dX2_defy_35 1 rfl rfl ?_
        refine r_iload (pc := 36) X dX2_defy_36 0 rfl ?_
        refine r_callvI (pc := 38) X dX2_defy_38 cf_X2_refuse ml_X2_60 (rf rfl rfl) hy oc_0.1 hc_2 (fun b hb => m_X2_refuse hb) rfl rfl (Nat.le_of_ble_eq_true rfl) (fun x7 σ8 => ?_)
        exact r_iret (pc := 41) X Z dX2_defy_41 rfl
    · refine r_sub [0] rfl ?_
      exact s_X2_defy_j18 X Z hy σ

set_option maxRecDepth 100000 in
theorem s_X2_bestHabit_j18 {y : LY} {l : Launch} {E : ET} (X : CX y l E cX2_bestHabit 8 RX2 (rmd 6)) (Z : ZX E (some .int)) (hy : y.1 ≤ (eS E).heap.size)     (σ : ST) : WW y l E 8 (fun a => QM y E (xI a)) 18 [(0, .ref (ad y 0))] [] σ (T_X2_bestHabit_j18   σ) := by
  unfold T_X2_bestHabit_j18
  refine r_aload_n (pc := 18) X dX2_bestHabit_18 0 rfl rfl ?_
  refine r_iconst (pc := 19) X dX2_bestHabit_19 kc_m1 ?_
  refine r_callvI (pc := 20) X dX2_bestHabit_20 cf_X2_refuse ml_X2_60 (rf rfl rfl) hy oc_0.1 hc_2 (fun b hb => m_X2_refuse hb) rfl rfl (Nat.le_of_ble_eq_true rfl) (fun x1 σ2 => ?_)
  exact r_iret (pc := 23) X Z dX2_bestHabit_23 rfl

set_option maxRecDepth 100000 in
theorem s_X2_bestHabit_L59 {y : LY} {l : Launch} {E : ET} (X : CX y l E cX2_bestHabit 8 RX2 (rmd 6)) (Z : ZX E (some .int)) (hy : y.1 ≤ (eS E).heap.size)     (n : Nat) : ∀ (v1 : Int32) (v2 : Int32) (v3 : Int32) (v4 : Int32) (v5 : Int32) (v6 : Int32) (σ : ST), WW y l E 8 (fun a => QM y E (xI a)) 59 [(0, .ref (ad y 0)), (1, .int v1), (2, .int v2), (3, .int v3), (4, .int v4), (5, .int v5), (6, .int v6)] [] σ (T_X2_bestHabit_L59  n v1 v2 v3 v4 v5 v6 σ) := by
  induction n with
  | zero => intros; exact r_none rfl
  | succ n ih =>
    intro v1 v2 v3 v4 v5 v6 σ
    unfold T_X2_bestHabit_L59
    refine r_iload (pc := 59) X dX2_bestHabit_59 6 rfl ?_
    refine r_bipush (pc := 61) X dX2_bestHabit_61 kb_10 ?_
    refine r_icmp_ge (pc := 63) (tgt := 114) X dX2_bestHabit_63 (by decide) ?_ ?_
    · refine r_iload (pc := 114) X dX2_bestHabit_114 4 rfl ?_
      exact r_iret (pc := 116) X Z dX2_bestHabit_116 rfl
    · refine r_aload_n (pc := 66) X dX2_bestHabit_66 0 rfl rfl ?_
      refine r_callvV (pc := 67) X dX2_bestHabit_67 cf_X2_think ml_X2_67 (rf rfl rfl) hy oc_0.1 hc_2 (fun b hb => m_X2_think hb) rfl rfl (Nat.le_of_ble_eq_true rfl) (fun σ2 => ?_)
      refine r_aload_n (pc := 70) X dX2_bestHabit_70 0 rfl rfl ?_
      refine r_geto (pc := 71) 2 X dX2_bestHabit_71 fl_X2_16 rfl (by decide) ?_
      refine r_geta (pc := 74) X dX2_bestHabit_74 fl_X2_120 oc_2 (by decide) ?_
      refine r_iload_n (pc := 77) X dX2_bestHabit_77 1 rfl rfl ?_
      refine r_iload (pc := 78) X dX2_bestHabit_78 6 rfl ?_
      refine r_iast (pc := 80) X dX2_bestHabit_80 ar_2_3 (fun σ3 => ?_)
      refine r_aload_n (pc := 81) X dX2_bestHabit_81 0 rfl rfl ?_
      refine r_iload_n (pc := 82) X dX2_bestHabit_82 3 rfl rfl ?_
      refine r_iload_n (pc := 83) X dX2_bestHabit_83 2 rfl rfl ?_
      refine r_iload (pc := 84) X dX2_bestHabit_84 5 rfl ?_
      refine r_iconst (pc := 86) X dX2_bestHabit_86 kc_1 ?_
      refine r_isub (pc := 87) X dX2_bestHabit_87 ?_
      refine r_callvI (pc := 88) X dX2_bestHabit_88 cf_X2_firstAt ml_X2_232 (rf rfl rfl) hy oc_0.1 hc_2 (fun b hb => m_X2_firstAt hb) rfl rfl (Nat.le_of_ble_eq_true rfl) (fun x4 σ5 => ?_)
      refine r_istore (pc := 91) (lv' := [(7, .int _), (0, .ref _), (1, .int _), (2, .int _), (3, .int _), (4, .int _), (5, .int _), (6, .int _)]) X dX2_bestHabit_91 (by decide) rfl ?_
      refine r_iload (pc := 93) X dX2_bestHabit_93 0 rfl ?_
      refine r_iload (pc := 95) X dX2_bestHabit_95 6 rfl ?_
      refine r_icmp_ge (pc := 97) (tgt := 108) X dX2_bestHabit_97 (by decide) ?_ ?_
      · refine r_iinc (pc := 108) (lv' := [(7, .int _), (0, .ref _), (1, .int _), (2, .int _), (3, .int _), (4, .int _), (5, .int _)]) X dX2_bestHabit_108 7 rfl (congrArg (fun z => v6 + z) kc_1) (by decide) rfl (fun x6 => ?_)
        refine r_goto (pc := 111) (tgt := 59) X dX2_bestHabit_111 (by decide) ?_
        refine r_sub [2, 3, 4, 5, 6, 7, 0] rfl ?_
        exact ih v1 v2 v3 v4 v5 x6 σ5
      · refine r_iload (pc := 100) X dX2_bestHabit_100 0 rfl ?_
        refine r_istore (pc := 102) (lv' := [(5, .int _), (7, .int _), (0, .ref _), (1, .int _), (2, .int _), (3, .int _), (4, .int _), (6, .int _)]) X dX2_bestHabit_102 (by decide) rfl ?_
        refine r_iload (pc := 104) X dX2_bestHabit_104 7 rfl ?_
        refine r_istore (pc := 106) (lv' := [(4, .int _), (5, .int _), (7, .int _), (0, .ref _), (1, .int _), (2, .int _), (3, .int _), (6, .int _)]) X dX2_bestHabit_106 (by decide) rfl ?_
        refine r_iinc (pc := 108) (lv' := [(4, .int _), (5, .int _), (7, .int _), (0, .ref _), (1, .int _), (2, .int _), (3, .int _)]) X dX2_bestHabit_108 7 rfl (congrArg (fun z => v6 + z) kc_1) (by decide) rfl (fun x7 => ?_)
        refine r_goto (pc := 111) (tgt := 59) X dX2_bestHabit_111 (by decide) ?_
        refine r_sub [4, 5, 6, 7, 1, 2, 0] rfl ?_
        exact ih v1 v2 v3 v6 x4 x7 σ5

set_option maxRecDepth 100000 in
theorem m_X2_bestHabit {y : LY} {l : Launch}  {a0 : Int32} {a1 : Int32} {σ : ST} {a : (Int32 × ST)} (h : T_X2_bestHabit a0 a1 σ = some a) : MU y l yX2_bestHabit cX2_bestHabit 8 (some .int) (rmd 6) [.ref (ad y 0), .int a0, .int a1] σ (xI a) := by
  refine MU.of (φ := xI) h (by decide +kernel) rfl (fun E X Z hy => ?_)
  have X : CX y l E cX2_bestHabit 8 RX2 (rmd 6) := X
  show WW y l E 8 _ 0 [(0, .ref (ad y 0)), (1, .int a0), (2, .int a1)] [] σ (T_X2_bestHabit a0 a1 σ)
  unfold T_X2_bestHabit
  refine r_aload_n (pc := 0) X dX2_bestHabit_0 0 rfl rfl ?_
  refine r_geto (pc := 1) 1 X dX2_bestHabit_1 fl_X2_12 rfl (by decide) ?_
  refine r_iload_n (pc := 4) X dX2_bestHabit_4 1 rfl rfl ?_
  refine r_callvp (pc := 5) X dX2_bestHabit_5 cf_X0_hasBag ml_X2_111 (rf rfl rfl) hy oc_1.1 (hc_0 (by decide)) (fun b hb => m_X0_hasBag (by decide) hb) rfl rfl (Nat.le_of_ble_eq_true rfl) (fun x1 => ?_)
  refine r_if_eq (pc := 8) (tgt := 18) X dX2_bestHabit_8 (by decide) ?_ ?_
  · refine r_sub [0] rfl ?_
    exact s_X2_bestHabit_j18 X Z hy σ
  · refine r_iload_n (pc := 11) X dX2_bestHabit_11 2 rfl rfl ?_
    refine r_callsp (pc := 12) X dX2_bestHabit_12 cf_X2_isPlace ml_X2_175 (rf rfl rfl) hy (fun b hb => m_X2_isPlace hb) rfl rfl (Nat.le_of_ble_eq_true rfl) (fun x3 => ?_)
    refine r_if_ne (pc := 15) (tgt := 24) X dX2_bestHabit_15 (by decide) ?_ ?_
    · refine r_aload_n (pc := 24) X dX2_bestHabit_24 0 rfl rfl ?_
      refine r_geto (pc := 25) 1 X dX2_bestHabit_25 fl_X2_12 rfl (by decide) ?_
      refine r_geta (pc := 28) X dX2_bestHabit_28 fl_X2_129 oc_1 (by decide) ?_
      refine r_iload_n (pc := 31) X dX2_bestHabit_31 1 rfl rfl ?_
      refine r_iald (pc := 32) X dX2_bestHabit_32 ar_1_6 (fun x5 => ?_)
      refine r_istore_n (pc := 33) (lv' := [(3, .int _), (0, .ref _), (1, .int _), (2, .int _)]) X dX2_bestHabit_33 rfl (by decide) rfl ?_
      refine r_aload_n (pc := 34) X dX2_bestHabit_34 1 rfl rfl ?_
      refine r_geto (pc := 35) 1 X dX2_bestHabit_35 fl_X2_12 rfl (by decide) ?_
      refine r_iload_n (pc := 38) X dX2_bestHabit_38 0 rfl rfl ?_
      refine r_callvp (pc := 39) X dX2_bestHabit_39 cf_X0_hasBearer ml_X2_135 (rf rfl rfl) hy oc_1.1 (hc_0 (by decide)) (fun b hb => m_X0_hasBearer (by decide) hb) rfl rfl (Nat.le_of_ble_eq_true rfl) (fun x6 => ?_)
      refine r_if_ne (pc := 42) (tgt := 48) X dX2_bestHabit_42 (by decide) ?_ ?_
      · refine r_bipush (pc := 48) X dX2_bestHabit_48 kb_m9 ?_
        refine r_istore (pc := 50) (lv' := [(4, .int _), (3, .int _), (0, .ref _), (1, .int _), (2, .int _)]) X dX2_bestHabit_50 (by decide) rfl ?_
        refine r_bipush (pc := 52) X dX2_bestHabit_52 kb_61 ?_
        refine r_istore (pc := 54) (lv' := [(5, .int _), (4, .int _), (3, .int _), (0, .ref _), (1, .int _), (2, .int _)]) X dX2_bestHabit_54 (by decide) rfl ?_
        refine r_iconst (pc := 56) X dX2_bestHabit_56 kc_0 ?_
        refine r_istore (pc := 57) (lv' := [(6, .int _), (5, .int _), (4, .int _), (3, .int _), (0, .ref _), (1, .int _), (2, .int _)]) X dX2_bestHabit_57 (by decide) rfl ?_
        refine r_sub [4, 5, 6, 3, 2, 1, 0] rfl ?_
        exact s_X2_bestHabit_L59 X Z hy FU a0 a1 x5 ((-9)) 61 0 σ
      · refine r_bipush (pc := 45) X dX2_bestHabit_45 kb_m9 ?_
        exact r_iret (pc := 47) X Z dX2_bestHabit_47 rfl
    · refine r_sub [0] rfl ?_
      exact s_X2_bestHabit_j18 X Z hy σ

set_option maxRecDepth 100000 in
theorem s_X2_tamed_L48 {y : LY} {l : Launch} {E : ET} (X : CX y l E cX2_tamed 4 RX2 (rmd 3)) (Z : ZX E (some .int)) (hy : y.1 ≤ (eS E).heap.size)     (n : Nat) : ∀ (v1 : Int32) (v2 : Int32) (v3 : Int32) (σ : ST), WW y l E 4 (fun a => QM y E (xI a)) 48 [(0, .ref (ad y 0)), (1, .int v1), (2, .int v2), (3, .int v3)] [] σ (T_X2_tamed_L48  n v1 v2 v3 σ) := by
  induction n with
  | zero => intros; exact r_none rfl
  | succ n ih =>
    intro v1 v2 v3 σ
    unfold T_X2_tamed_L48
    refine r_iload_n (pc := 48) X dX2_tamed_48 3 rfl rfl ?_
    refine r_if_lt (pc := 49) (tgt := 81) X dX2_tamed_49 (by decide) ?_ ?_
    · refine r_bipush (pc := 81) X dX2_tamed_81 kb_m9 ?_
      exact r_iret (pc := 83) X Z dX2_tamed_83 rfl
    · refine r_aload_n (pc := 52) X dX2_tamed_52 0 rfl rfl ?_
      refine r_geto (pc := 53) 2 X dX2_tamed_53 fl_X2_16 rfl (by decide) ?_
      refine r_geta (pc := 56) X dX2_tamed_56 fl_X2_117 oc_2 (by decide) ?_
      refine r_iload_n (pc := 59) X dX2_tamed_59 1 rfl rfl ?_
      refine r_iload_n (pc := 60) X dX2_tamed_60 3 rfl rfl ?_
      refine r_iast (pc := 61) X dX2_tamed_61 ar_2_2 (fun σ1 => ?_)
      refine r_aload_n (pc := 62) X dX2_tamed_62 0 rfl rfl ?_
      refine r_geto (pc := 63) 2 X dX2_tamed_63 fl_X2_16 rfl (by decide) ?_
      refine r_iload_n (pc := 66) X dX2_tamed_66 2 rfl rfl ?_
      refine r_callvp (pc := 67) X dX2_tamed_67 cf_X0_isLed ml_X2_153 (rf rfl rfl) hy oc_2.1 (hc_0 (by decide)) (fun b hb => m_X0_isLed (by decide) hb) rfl rfl (Nat.le_of_ble_eq_true rfl) (fun x2 => ?_)
      refine r_if_ne (pc := 70) (tgt := 75) X dX2_tamed_70 (by decide) ?_ ?_
      · refine r_iinc (pc := 75) (lv' := [(0, .ref _), (1, .int _), (2, .int _)]) X dX2_tamed_75 3 rfl (congrArg (fun z => v3 + z) kc_m1) (by decide) rfl (fun x4 => ?_)
        refine r_goto (pc := 78) (tgt := 48) X dX2_tamed_78 (by decide) ?_
        refine r_sub [1, 2, 3, 0] rfl ?_
        exact ih v1 v2 x4 σ1
      · refine r_iload_n (pc := 73) X dX2_tamed_73 3 rfl rfl ?_
        exact r_iret (pc := 74) X Z dX2_tamed_74 rfl

set_option maxRecDepth 100000 in
theorem m_X2_tamed {y : LY} {l : Launch}  {a0 : Int32} {σ : ST} {a : (Int32 × ST)} (h : T_X2_tamed a0 σ = some a) : MU y l yX2_tamed cX2_tamed 4 (some .int) (rmd 3) [.ref (ad y 0), .int a0] σ (xI a) := by
  refine MU.of (φ := xI) h (by decide +kernel) rfl (fun E X Z hy => ?_)
  have X : CX y l E cX2_tamed 4 RX2 (rmd 3) := X
  show WW y l E 4 _ 0 [(0, .ref (ad y 0)), (1, .int a0)] [] σ (T_X2_tamed a0 σ)
  unfold T_X2_tamed
  refine r_aload_n (pc := 0) X dX2_tamed_0 0 rfl rfl ?_
  refine r_geto (pc := 1) 1 X dX2_tamed_1 fl_X2_12 rfl (by decide) ?_
  refine r_iload_n (pc := 4) X dX2_tamed_4 1 rfl rfl ?_
  refine r_callvp (pc := 5) X dX2_tamed_5 cf_X0_hasBag ml_X2_111 (rf rfl rfl) hy oc_1.1 (hc_0 (by decide)) (fun b hb => m_X0_hasBag (by decide) hb) rfl rfl (Nat.le_of_ble_eq_true rfl) (fun x1 => ?_)
  refine r_if_ne (pc := 8) (tgt := 17) X dX2_tamed_8 (by decide) ?_ ?_
  · refine r_aload_n (pc := 17) X dX2_tamed_17 0 rfl rfl ?_
    refine r_geto (pc := 18) 1 X dX2_tamed_18 fl_X2_12 rfl (by decide) ?_
    refine r_geta (pc := 21) X dX2_tamed_21 fl_X2_129 oc_1 (by decide) ?_
    refine r_iload_n (pc := 24) X dX2_tamed_24 1 rfl rfl ?_
    refine r_iald (pc := 25) X dX2_tamed_25 ar_1_6 (fun x3 => ?_)
    refine r_istore_n (pc := 26) (lv' := [(2, .int _), (0, .ref _), (1, .int _)]) X dX2_tamed_26 rfl (by decide) rfl ?_
    refine r_aload_n (pc := 27) X dX2_tamed_27 1 rfl rfl ?_
    refine r_geto (pc := 28) 1 X dX2_tamed_28 fl_X2_12 rfl (by decide) ?_
    refine r_iload_n (pc := 31) X dX2_tamed_31 0 rfl rfl ?_
    refine r_callvp (pc := 32) X dX2_tamed_32 cf_X0_hasBearer ml_X2_135 (rf rfl rfl) hy oc_1.1 (hc_0 (by decide)) (fun b hb => m_X0_hasBearer (by decide) hb) rfl rfl (Nat.le_of_ble_eq_true rfl) (fun x4 => ?_)
    refine r_if_ne (pc := 35) (tgt := 41) X dX2_tamed_35 (by decide) ?_ ?_
    · refine r_aload_n (pc := 41) X dX2_tamed_41 1 rfl rfl ?_
      refine r_callvV (pc := 42) X dX2_tamed_42 cf_X2_think ml_X2_67 (rf rfl rfl) hy oc_0.1 hc_2 (fun b hb => m_X2_think hb) rfl rfl (Nat.le_of_ble_eq_true rfl) (fun σ7 => ?_)
      refine r_bipush (pc := 45) X dX2_tamed_45 kb_9 ?_
      refine r_istore_n (pc := 47) (lv' := [(3, .int _), (2, .int _), (0, .ref _), (1, .int _)]) X dX2_tamed_47 rfl (by decide) rfl ?_
      refine r_sub [2, 3, 1, 0] rfl ?_
      exact s_X2_tamed_L48 X Z hy FU a0 x3 9 σ7
    · refine r_bipush (pc := 38) X dX2_tamed_38 kb_m9 ?_
      exact r_iret (pc := 40) X Z dX2_tamed_40 rfl
  · refine r_aload_n (pc := 11) X dX2_tamed_11 0 rfl rfl ?_
    refine r_iconst (pc := 12) X dX2_tamed_12 kc_m1 ?_
    refine r_callvI (pc := 13) X dX2_tamed_13 cf_X2_refuse ml_X2_60 (rf rfl rfl) hy oc_0.1 hc_2 (fun b hb => m_X2_refuse hb) rfl rfl (Nat.le_of_ble_eq_true rfl) (fun x8 σ9 => ?_)
    exact r_iret (pc := 16) X Z dX2_tamed_16 rfl

set_option maxRecDepth 100000 in
theorem s_X2_swap_L60 {y : LY} {l : Launch} {E : ET} (X : CX y l E cX2_swap 7 RX2 (rmd 5)) (Z : ZX E (some .int)) (hy : y.1 ≤ (eS E).heap.size)   {K42 : Int32 → Int32 → Int32 → Int32 → ST → Option (Int32 × ST)} (hK42 : ∀ (v1 : Int32) (v3 : Int32) (v4 : Int32) (v5 : Int32) (σ : ST), WW y l E 7 (fun a => QM y E (xI a)) 42 [(0, .ref (ad y 0)), (1, .int v1), (3, .int v3), (4, .int v4), (5, .int v5)] [] σ (K42 v1 v3 v4 v5 σ)) (n : Nat) : ∀ (v1 : Int32) (v3 : Int32) (v4 : Int32) (v5 : Int32) (v6 : Int32) (σ : ST), WW y l E 7 (fun a => QM y E (xI a)) 60 [(0, .ref (ad y 0)), (1, .int v1), (3, .int v3), (4, .int v4), (5, .int v5), (6, .int v6)] [] σ (T_X2_swap_L60 K42 n v1 v3 v4 v5 v6 σ) := by
  induction n with
  | zero => intros; exact r_none rfl
  | succ n ih =>
    intro v1 v3 v4 v5 v6 σ
    unfold T_X2_swap_L60
    refine r_iload (pc := 60) X dX2_swap_60 5 rfl ?_
    refine r_aload_n (pc := 62) X dX2_swap_62 0 rfl rfl ?_
    refine r_geto (pc := 63) 1 X dX2_swap_63 fl_X2_12 rfl (by decide) ?_
    refine r_geti (pc := 66) X dX2_swap_66 fl_X2_159 oc_1 rfl (fun x1 => ?_)
    refine r_icmp_ge (pc := 69) (tgt := 130) X dX2_swap_69 (by decide) ?_ ?_
    · refine r_iinc (pc := 130) (lv' := [(0, .ref _), (1, .int _), (3, .int _), (4, .int _), (6, .int _)]) X dX2_swap_130 4 rfl (congrArg (fun z => v5 + z) kc_1) (by decide) rfl (fun x2 => ?_)
      refine r_goto (pc := 133) (tgt := 42) X dX2_swap_133 (by decide) ?_
      refine r_sub [1, 2, 3, 4, 0] rfl ?_
      exact hK42 v1 v3 v4 x2 σ
    · refine r_aload_n (pc := 72) X dX2_swap_72 0 rfl rfl ?_
      refine r_callvV (pc := 73) X dX2_swap_73 cf_X2_think ml_X2_67 (rf rfl rfl) hy oc_0.1 hc_2 (fun b hb => m_X2_think hb) rfl rfl (Nat.le_of_ble_eq_true rfl) (fun σ4 => ?_)
      refine r_aload_n (pc := 76) X dX2_swap_76 0 rfl rfl ?_
      refine r_geto (pc := 77) 2 X dX2_swap_77 fl_X2_16 rfl (by decide) ?_
      refine r_iload (pc := 80) X dX2_swap_80 4 rfl ?_
      refine r_iload (pc := 82) X dX2_swap_82 5 rfl ?_
      refine r_callvV (pc := 84) X dX2_swap_84 cf_X0_changeBags ml_X2_238 (rf rfl rfl) hy oc_2.1 (hc_0 (by decide)) (fun b hb => m_X0_changeBags (by decide) hb) rfl rfl (Nat.le_of_ble_eq_true rfl) (fun σ6 => ?_)
      refine r_aload_n (pc := 87) X dX2_swap_87 0 rfl rfl ?_
      refine r_geto (pc := 88) 2 X dX2_swap_88 fl_X2_16 rfl (by decide) ?_
      refine r_iload_n (pc := 91) X dX2_swap_91 1 rfl rfl ?_
      refine r_callvV (pc := 92) X dX2_swap_92 cf_X0_goHours ml_X2_107 (rf rfl rfl) hy oc_2.1 (hc_0 (by decide)) (fun b hb => m_X0_goHours (by decide) hb) rfl rfl (Nat.le_of_ble_eq_true rfl) (fun σ8 => ?_)
      refine r_aload_n (pc := 95) X dX2_swap_95 0 rfl rfl ?_
      refine r_geto (pc := 96) 2 X dX2_swap_96 fl_X2_16 rfl (by decide) ?_
      refine r_callvp (pc := 99) X dX2_swap_99 cf_X0_allLedHours ml_X2_235 (rf rfl rfl) hy oc_2.1 (hc_0 (by decide)) (fun b hb => m_X0_allLedHours (by decide) hb) rfl rfl (Nat.le_of_ble_eq_true rfl) (fun x9 => ?_)
      refine r_iload_n (pc := 102) X dX2_swap_102 2 rfl rfl ?_
      refine r_icmp_ge (pc := 103) (tgt := 124) X dX2_swap_103 (by decide) ?_ ?_
      · refine r_iinc (pc := 124) (lv' := [(0, .ref _), (1, .int _), (3, .int _), (4, .int _), (5, .int _)]) X dX2_swap_124 5 rfl (congrArg (fun z => v6 + z) kc_1) (by decide) rfl (fun x11 => ?_)
        refine r_goto (pc := 127) (tgt := 60) X dX2_swap_127 (by decide) ?_
        refine r_sub [1, 2, 3, 4, 5, 0] rfl ?_
        exact ih v1 v3 v4 v5 x11 σ8
      · refine r_aload_n (pc := 106) X dX2_swap_106 0 rfl rfl ?_
        refine r_geto (pc := 107) 2 X dX2_swap_107 fl_X2_16 rfl (by decide) ?_
        refine r_callvp (pc := 110) X dX2_swap_110 cf_X0_allLedHours ml_X2_235 (rf rfl rfl) hy oc_2.1 (hc_0 (by decide)) (fun b hb => m_X0_allLedHours (by decide) hb) rfl rfl (Nat.le_of_ble_eq_true rfl) (fun x12 => ?_)
        refine r_istore_n (pc := 113) (lv' := [(3, .int _), (0, .ref _), (1, .int _), (4, .int _), (5, .int _), (6, .int _)]) X dX2_swap_113 rfl (by decide) rfl ?_
        refine r_bipush (pc := 114) X dX2_swap_114 kb_10 ?_
        refine r_iload (pc := 116) X dX2_swap_116 4 rfl ?_
        refine r_imul (pc := 118) X dX2_swap_118 ?_
        refine r_iload (pc := 119) X dX2_swap_119 5 rfl ?_
        refine r_iadd (pc := 121) X dX2_swap_121 ?_
        refine r_vl (fun x14 => ?_)
        refine r_istore (pc := 122) (lv' := [(4, .int _), (3, .int _), (0, .ref _), (1, .int _), (5, .int _), (6, .int _)]) X dX2_swap_122 (by decide) rfl ?_
        refine r_iinc (pc := 124) (lv' := [(4, .int _), (3, .int _), (0, .ref _), (1, .int _), (5, .int _)]) X dX2_swap_124 5 rfl (congrArg (fun z => v6 + z) kc_1) (by decide) rfl (fun x15 => ?_)
        refine r_goto (pc := 127) (tgt := 60) X dX2_swap_127 (by decide) ?_
        refine r_sub [3, 4, 2, 1, 5, 0] rfl ?_
        exact ih v1 x12 x14 v5 x15 σ8

set_option maxRecDepth 100000 in
theorem s_X2_swap_L42 {y : LY} {l : Launch} {E : ET} (X : CX y l E cX2_swap 7 RX2 (rmd 5)) (Z : ZX E (some .int)) (hy : y.1 ≤ (eS E).heap.size)     (n : Nat) : ∀ (v1 : Int32) (v3 : Int32) (v4 : Int32) (v5 : Int32) (σ : ST), WW y l E 7 (fun a => QM y E (xI a)) 42 [(0, .ref (ad y 0)), (1, .int v1), (3, .int v3), (4, .int v4), (5, .int v5)] [] σ (T_X2_swap_L42  n v1 v3 v4 v5 σ) := by
  induction n with
  | zero => intros; exact r_none rfl
  | succ n ih =>
    intro v1 v3 v4 v5 σ
    unfold T_X2_swap_L42
    refine r_iload (pc := 42) X dX2_swap_42 4 rfl ?_
    refine r_aload_n (pc := 44) X dX2_swap_44 0 rfl rfl ?_
    refine r_geto (pc := 45) 1 X dX2_swap_45 fl_X2_12 rfl (by decide) ?_
    refine r_geti (pc := 48) X dX2_swap_48 fl_X2_159 oc_1 rfl (fun x1 => ?_)
    refine r_icmp_ge (pc := 51) (tgt := 136) X dX2_swap_51 (by decide) ?_ ?_
    · refine r_iload (pc := 136) X dX2_swap_136 3 rfl ?_
      exact r_iret (pc := 138) X Z dX2_swap_138 rfl
    · refine r_iload (pc := 54) X dX2_swap_54 4 rfl ?_
      refine r_iconst (pc := 56) X dX2_swap_56 kc_1 ?_
      refine r_iadd (pc := 57) X dX2_swap_57 ?_
      refine r_vl (fun x2 => ?_)
      refine r_istore (pc := 58) (lv' := [(6, .int _), (0, .ref _), (1, .int _), (3, .int _), (4, .int _), (5, .int _)]) X dX2_swap_58 (by decide) rfl ?_
      refine r_sub [1, 2, 3, 4, 5, 0] rfl ?_
      exact s_X2_swap_L60 X Z hy (fun v1 v3 v4 v5 s => ih v1 v3 v4 v5 s) FU v1 v3 v4 v5 x2 σ

set_option maxRecDepth 100000 in
theorem m_X2_swap {y : LY} {l : Launch}  {a0 : Int32} {σ : ST} {a : (Int32 × ST)} (h : T_X2_swap a0 σ = some a) : MU y l yX2_swap cX2_swap 7 (some .int) (rmd 5) [.ref (ad y 0), .int a0] σ (xI a) := by
  refine MU.of (φ := xI) h (by decide +kernel) rfl (fun E X Z hy => ?_)
  have X : CX y l E cX2_swap 7 RX2 (rmd 5) := X
  show WW y l E 7 _ 0 [(0, .ref (ad y 0)), (1, .int a0)] [] σ (T_X2_swap a0 σ)
  unfold T_X2_swap
  refine r_iload_n (pc := 0) X dX2_swap_0 1 rfl rfl ?_
  refine r_callsp (pc := 1) X dX2_swap_1 cf_X2_wrongHours ml_X2_184 (rf rfl rfl) hy (fun b hb => m_X2_wrongHours hb) rfl rfl (Nat.le_of_ble_eq_true rfl) (fun x1 => ?_)
  refine r_istore_n (pc := 4) (lv' := [(2, .int _), (0, .ref _), (1, .int _)]) X dX2_swap_4 rfl (by decide) rfl ?_
  refine r_iload_n (pc := 5) X dX2_swap_5 0 rfl rfl ?_
  refine r_if_eq (pc := 6) (tgt := 15) X dX2_swap_6 (by decide) ?_ ?_
  · refine r_aload_n (pc := 15) X dX2_swap_15 1 rfl rfl ?_
    refine r_callvV (pc := 16) X dX2_swap_16 cf_X2_think ml_X2_67 (rf rfl rfl) hy oc_0.1 hc_2 (fun b hb => m_X2_think hb) rfl rfl (Nat.le_of_ble_eq_true rfl) (fun σ4 => ?_)
    refine r_aload_n (pc := 19) X dX2_swap_19 1 rfl rfl ?_
    refine r_geto (pc := 20) 2 X dX2_swap_20 fl_X2_16 rfl (by decide) ?_
    refine r_iload_n (pc := 23) X dX2_swap_23 2 rfl rfl ?_
    refine r_callvV (pc := 24) X dX2_swap_24 cf_X0_goHours ml_X2_107 (rf rfl rfl) hy oc_2.1 (hc_0 (by decide)) (fun b hb => m_X0_goHours (by decide) hb) rfl rfl (Nat.le_of_ble_eq_true rfl) (fun σ6 => ?_)
    refine r_aload_n (pc := 27) X dX2_swap_27 1 rfl rfl ?_
    refine r_geto (pc := 28) 2 X dX2_swap_28 fl_X2_16 rfl (by decide) ?_
    refine r_callvp (pc := 31) X dX2_swap_31 cf_X0_allLedHours ml_X2_235 (rf rfl rfl) hy oc_2.1 (hc_0 (by decide)) (fun b hb => m_X0_allLedHours (by decide) hb) rfl rfl (Nat.le_of_ble_eq_true rfl) (fun x7 => ?_)
    refine r_istore_n (pc := 34) (lv' := [(3, .int _), (2, .int _), (0, .ref _), (1, .int _)]) X dX2_swap_34 rfl (by decide) rfl ?_
    refine r_bipush (pc := 35) X dX2_swap_35 kb_m9 ?_
    refine r_istore (pc := 37) (lv' := [(4, .int _), (3, .int _), (2, .int _), (0, .ref _), (1, .int _)]) X dX2_swap_37 (by decide) rfl ?_
    refine r_iconst (pc := 39) X dX2_swap_39 kc_0 ?_
    refine r_istore (pc := 40) (lv' := [(5, .int _), (4, .int _), (3, .int _), (2, .int _), (0, .ref _), (1, .int _)]) X dX2_swap_40 (by decide) rfl ?_
    refine r_sub [4, 5, 2, 1, 0] rfl ?_
    exact s_X2_swap_L42 X Z hy FU a0 x7 ((-9)) 0 σ6
  · refine r_aload_n (pc := 9) X dX2_swap_9 1 rfl rfl ?_
    refine r_iload_n (pc := 10) X dX2_swap_10 0 rfl rfl ?_
    refine r_callvI (pc := 11) X dX2_swap_11 cf_X2_refuse ml_X2_60 (rf rfl rfl) hy oc_0.1 hc_2 (fun b hb => m_X2_refuse hb) rfl rfl (Nat.le_of_ble_eq_true rfl) (fun x9 σ10 => ?_)
    exact r_iret (pc := 14) X Z dX2_swap_14 rfl

set_option maxRecDepth 100000 in
theorem s_X2_strongestWilled_L5 {y : LY} {l : Launch} {E : ET} (X : CX y l E cX2_strongestWilled 3 RX2 (rmd 0)) (Z : ZX E (some .int)) (hy : y.1 ≤ (eS E).heap.size)  {σ : ST}   (n : Nat) : ∀ (v1 : Int32) (v2 : Int32), WW y l E 3 (fun a => QM y E (xp σ a)) 5 [(0, .ref (ad y 0)), (1, .int v1), (2, .int v2)] [] σ (T_X2_strongestWilled_L5 σ n v1 v2) := by
  induction n with
  | zero => intros; exact r_none rfl
  | succ n ih =>
    intro v1 v2
    unfold T_X2_strongestWilled_L5
    refine r_iload_n (pc := 5) X dX2_strongestWilled_5 2 rfl rfl ?_
    refine r_aload_n (pc := 6) X dX2_strongestWilled_6 0 rfl rfl ?_
    refine r_geto (pc := 7) 1 X dX2_strongestWilled_7 fl_X2_12 rfl (by decide) ?_
    refine r_geti (pc := 10) X dX2_strongestWilled_10 fl_X2_159 oc_1 rfl (fun x1 => ?_)
    refine r_icmp_ge (pc := 13) (tgt := 61) X dX2_strongestWilled_13 (by decide) ?_ ?_
    · refine r_iload_n (pc := 61) X dX2_strongestWilled_61 1 rfl rfl ?_
      exact r_iret (pc := 62) X Z dX2_strongestWilled_62 rfl
    · refine r_aload_n (pc := 16) X dX2_strongestWilled_16 0 rfl rfl ?_
      refine r_geto (pc := 17) 1 X dX2_strongestWilled_17 fl_X2_12 rfl (by decide) ?_
      refine r_geta (pc := 20) X dX2_strongestWilled_20 fl_X2_147 oc_1 (by decide) ?_
      refine r_iload_n (pc := 23) X dX2_strongestWilled_23 2 rfl rfl ?_
      refine r_iald (pc := 24) X dX2_strongestWilled_24 ar_1_11 (fun x2 => ?_)
      refine r_if_ge (pc := 25) (tgt := 55) X dX2_strongestWilled_25 (by decide) ?_ ?_
      · refine r_iinc (pc := 55) (lv' := [(0, .ref _), (1, .int _)]) X dX2_strongestWilled_55 2 rfl (congrArg (fun z => v2 + z) kc_1) (by decide) rfl (fun x3 => ?_)
        refine r_goto (pc := 58) (tgt := 5) X dX2_strongestWilled_58 (by decide) ?_
        refine r_sub [1, 2, 0] rfl ?_
        exact ih v1 x3
      · refine r_iload_n (pc := 28) X dX2_strongestWilled_28 1 rfl rfl ?_
        refine r_if_lt (pc := 29) (tgt := 53) X dX2_strongestWilled_29 (by decide) ?_ ?_
        · refine r_iload_n (pc := 53) X dX2_strongestWilled_53 2 rfl rfl ?_
          refine r_istore_n (pc := 54) (lv' := [(1, .int _), (0, .ref _), (2, .int _)]) X dX2_strongestWilled_54 rfl (by decide) rfl ?_
          refine r_iinc (pc := 55) (lv' := [(1, .int _), (0, .ref _)]) X dX2_strongestWilled_55 2 rfl (congrArg (fun z => v2 + z) kc_1) (by decide) rfl (fun x4 => ?_)
          refine r_goto (pc := 58) (tgt := 5) X dX2_strongestWilled_58 (by decide) ?_
          refine r_sub [2, 1, 0] rfl ?_
          exact ih v2 x4
        · refine r_aload_n (pc := 32) X dX2_strongestWilled_32 0 rfl rfl ?_
          refine r_geto (pc := 33) 1 X dX2_strongestWilled_33 fl_X2_12 rfl (by decide) ?_
          refine r_geta (pc := 36) X dX2_strongestWilled_36 fl_X2_138 oc_1 (by decide) ?_
          refine r_iload_n (pc := 39) X dX2_strongestWilled_39 2 rfl rfl ?_
          refine r_iald (pc := 40) X dX2_strongestWilled_40 ar_1_8 (fun x5 => ?_)
          refine r_aload_n (pc := 41) X dX2_strongestWilled_41 0 rfl rfl ?_
          refine r_geto (pc := 42) 1 X dX2_strongestWilled_42 fl_X2_12 rfl (by decide) ?_
          refine r_geta (pc := 45) X dX2_strongestWilled_45 fl_X2_138 oc_1 (by decide) ?_
          refine r_iload_n (pc := 48) X dX2_strongestWilled_48 1 rfl rfl ?_
          refine r_iald (pc := 49) X dX2_strongestWilled_49 ar_1_8 (fun x6 => ?_)
          refine r_icmp_le (pc := 50) (tgt := 55) X dX2_strongestWilled_50 (by decide) ?_ ?_
          · refine r_iinc (pc := 55) (lv' := [(0, .ref _), (1, .int _)]) X dX2_strongestWilled_55 2 rfl (congrArg (fun z => v2 + z) kc_1) (by decide) rfl (fun x7 => ?_)
            refine r_goto (pc := 58) (tgt := 5) X dX2_strongestWilled_58 (by decide) ?_
            refine r_sub [1, 2, 0] rfl ?_
            exact ih v1 x7
          · refine r_iload_n (pc := 53) X dX2_strongestWilled_53 2 rfl rfl ?_
            refine r_istore_n (pc := 54) (lv' := [(1, .int _), (0, .ref _), (2, .int _)]) X dX2_strongestWilled_54 rfl (by decide) rfl ?_
            refine r_iinc (pc := 55) (lv' := [(1, .int _), (0, .ref _)]) X dX2_strongestWilled_55 2 rfl (congrArg (fun z => v2 + z) kc_1) (by decide) rfl (fun x8 => ?_)
            refine r_goto (pc := 58) (tgt := 5) X dX2_strongestWilled_58 (by decide) ?_
            refine r_sub [2, 1, 0] rfl ?_
            exact ih v2 x8

set_option maxRecDepth 100000 in
theorem m_X2_strongestWilled {y : LY} {l : Launch}   {σ : ST} {a : Int32} (h : T_X2_strongestWilled σ = some a) : MU y l yX2_strongestWilled cX2_strongestWilled 3 (some .int) (rmd 0) [.ref (ad y 0)] σ (xp σ a) := by
  refine MU.of (φ := xp σ) h (by decide +kernel) rfl (fun E X Z hy => ?_)
  have X : CX y l E cX2_strongestWilled 3 RX2 (rmd 0) := X
  show WW y l E 3 _ 0 [(0, .ref (ad y 0))] [] σ (T_X2_strongestWilled σ)
  unfold T_X2_strongestWilled
  refine r_bipush (pc := 0) X dX2_strongestWilled_0 kb_m9 ?_
  refine r_istore_n (pc := 2) (lv' := [(1, .int _), (0, .ref _)]) X dX2_strongestWilled_2 rfl (by decide) rfl ?_
  refine r_iconst (pc := 3) X dX2_strongestWilled_3 kc_0 ?_
  refine r_istore_n (pc := 4) (lv' := [(2, .int _), (1, .int _), (0, .ref _)]) X dX2_strongestWilled_4 rfl (by decide) rfl ?_
  refine r_sub [2, 1, 0] rfl ?_
  exact s_X2_strongestWilled_L5 X Z hy FU ((-9)) 0

set_option maxRecDepth 100000 in
theorem s_X2_strongestBag_L5 {y : LY} {l : Launch} {E : ET} (X : CX y l E cX2_strongestBag 3 RX2 (rmd 2)) (Z : ZX E (some .int)) (hy : y.1 ≤ (eS E).heap.size)  {σ : ST}   (n : Nat) : ∀ (v1 : Int32) (v2 : Int32), WW y l E 3 (fun a => QM y E (xp σ a)) 5 [(0, .ref (ad y 0)), (1, .int v1), (2, .int v2)] [] σ (T_X2_strongestBag_L5 σ n v1 v2) := by
  induction n with
  | zero => intros; exact r_none rfl
  | succ n ih =>
    intro v1 v2
    unfold T_X2_strongestBag_L5
    refine r_iload_n (pc := 5) X dX2_strongestBag_5 2 rfl rfl ?_
    refine r_aload_n (pc := 6) X dX2_strongestBag_6 0 rfl rfl ?_
    refine r_geto (pc := 7) 1 X dX2_strongestBag_7 fl_X2_12 rfl (by decide) ?_
    refine r_geti (pc := 10) X dX2_strongestBag_10 fl_X2_156 oc_1 rfl (fun x1 => ?_)
    refine r_icmp_ge (pc := 13) (tgt := 47) X dX2_strongestBag_13 (by decide) ?_ ?_
    · refine r_iload_n (pc := 47) X dX2_strongestBag_47 1 rfl rfl ?_
      exact r_iret (pc := 48) X Z dX2_strongestBag_48 rfl
    · refine r_iload_n (pc := 16) X dX2_strongestBag_16 1 rfl rfl ?_
      refine r_if_lt (pc := 17) (tgt := 39) X dX2_strongestBag_17 (by decide) ?_ ?_
      · refine r_iload_n (pc := 39) X dX2_strongestBag_39 2 rfl rfl ?_
        refine r_istore_n (pc := 40) (lv' := [(1, .int _), (0, .ref _), (2, .int _)]) X dX2_strongestBag_40 rfl (by decide) rfl ?_
        refine r_iinc (pc := 41) (lv' := [(1, .int _), (0, .ref _)]) X dX2_strongestBag_41 2 rfl (congrArg (fun z => v2 + z) kc_1) (by decide) rfl (fun x2 => ?_)
        refine r_goto (pc := 44) (tgt := 5) X dX2_strongestBag_44 (by decide) ?_
        refine r_sub [2, 1, 0] rfl ?_
        exact ih v2 x2
      · refine r_aload_n (pc := 20) X dX2_strongestBag_20 0 rfl rfl ?_
        refine r_geto (pc := 21) 1 X dX2_strongestBag_21 fl_X2_12 rfl (by decide) ?_
        refine r_iload_n (pc := 24) X dX2_strongestBag_24 2 rfl rfl ?_
        refine r_callvp (pc := 25) X dX2_strongestBag_25 cf_X0_pullOf ml_X2_132 (rf rfl rfl) hy oc_1.1 (hc_0 (by decide)) (fun b hb => m_X0_pullOf (by decide) hb) rfl rfl (Nat.le_of_ble_eq_true rfl) (fun x3 => ?_)
        refine r_aload_n (pc := 28) X dX2_strongestBag_28 0 rfl rfl ?_
        refine r_geto (pc := 29) 1 X dX2_strongestBag_29 fl_X2_12 rfl (by decide) ?_
        refine r_iload_n (pc := 32) X dX2_strongestBag_32 1 rfl rfl ?_
        refine r_callvp (pc := 33) X dX2_strongestBag_33 cf_X0_pullOf ml_X2_132 (rf rfl rfl) hy oc_1.1 (hc_0 (by decide)) (fun b hb => m_X0_pullOf (by decide) hb) rfl rfl (Nat.le_of_ble_eq_true rfl) (fun x5 => ?_)
        refine r_icmp_le (pc := 36) (tgt := 41) X dX2_strongestBag_36 (by decide) ?_ ?_
        · refine r_iinc (pc := 41) (lv' := [(0, .ref _), (1, .int _)]) X dX2_strongestBag_41 2 rfl (congrArg (fun z => v2 + z) kc_1) (by decide) rfl (fun x7 => ?_)
          refine r_goto (pc := 44) (tgt := 5) X dX2_strongestBag_44 (by decide) ?_
          refine r_sub [1, 2, 0] rfl ?_
          exact ih v1 x7
        · refine r_iload_n (pc := 39) X dX2_strongestBag_39 2 rfl rfl ?_
          refine r_istore_n (pc := 40) (lv' := [(1, .int _), (0, .ref _), (2, .int _)]) X dX2_strongestBag_40 rfl (by decide) rfl ?_
          refine r_iinc (pc := 41) (lv' := [(1, .int _), (0, .ref _)]) X dX2_strongestBag_41 2 rfl (congrArg (fun z => v2 + z) kc_1) (by decide) rfl (fun x8 => ?_)
          refine r_goto (pc := 44) (tgt := 5) X dX2_strongestBag_44 (by decide) ?_
          refine r_sub [2, 1, 0] rfl ?_
          exact ih v2 x8

set_option maxRecDepth 100000 in
theorem m_X2_strongestBag {y : LY} {l : Launch}   {σ : ST} {a : Int32} (h : T_X2_strongestBag σ = some a) : MU y l yX2_strongestBag cX2_strongestBag 3 (some .int) (rmd 2) [.ref (ad y 0)] σ (xp σ a) := by
  refine MU.of (φ := xp σ) h (by decide +kernel) rfl (fun E X Z hy => ?_)
  have X : CX y l E cX2_strongestBag 3 RX2 (rmd 2) := X
  show WW y l E 3 _ 0 [(0, .ref (ad y 0))] [] σ (T_X2_strongestBag σ)
  unfold T_X2_strongestBag
  refine r_bipush (pc := 0) X dX2_strongestBag_0 kb_m9 ?_
  refine r_istore_n (pc := 2) (lv' := [(1, .int _), (0, .ref _)]) X dX2_strongestBag_2 rfl (by decide) rfl ?_
  refine r_iconst (pc := 3) X dX2_strongestBag_3 kc_0 ?_
  refine r_istore_n (pc := 4) (lv' := [(2, .int _), (1, .int _), (0, .ref _)]) X dX2_strongestBag_4 rfl (by decide) rfl ?_
  refine r_sub [2, 1, 0] rfl ?_
  exact s_X2_strongestBag_L5 X Z hy FU ((-9)) 0

set_option maxRecDepth 100000 in
theorem s_X2_heir_j9 {y : LY} {l : Launch} {E : ET} (X : CX y l E cX2_heir 2 RX2 (rmd 3)) (Z : ZX E (some .int)) (hy : y.1 ≤ (eS E).heap.size)     (σ : ST) : WW y l E 2 (fun a => QM y E (xI a)) 9 [(0, .ref (ad y 0))] [] σ (T_X2_heir_j9   σ) := by
  unfold T_X2_heir_j9
  refine r_aload_n (pc := 9) X dX2_heir_9 0 rfl rfl ?_
  refine r_bipush (pc := 10) X dX2_heir_10 kb_m2 ?_
  refine r_callvI (pc := 12) X dX2_heir_12 cf_X2_refuse ml_X2_60 (rf rfl rfl) hy oc_0.1 hc_2 (fun b hb => m_X2_refuse hb) rfl rfl (Nat.le_of_ble_eq_true rfl) (fun x1 σ2 => ?_)
  exact r_iret (pc := 15) X Z dX2_heir_15 rfl

set_option maxRecDepth 100000 in
theorem m_X2_heir {y : LY} {l : Launch}  {a0 : Int32} {σ : ST} {a : (Int32 × ST)} (h : T_X2_heir a0 σ = some a) : MU y l yX2_heir cX2_heir 2 (some .int) (rmd 3) [.ref (ad y 0), .int a0] σ (xI a) := by
  refine MU.of (φ := xI) h (by decide +kernel) rfl (fun E X Z hy => ?_)
  have X : CX y l E cX2_heir 2 RX2 (rmd 3) := X
  show WW y l E 2 _ 0 [(0, .ref (ad y 0)), (1, .int a0)] [] σ (T_X2_heir a0 σ)
  unfold T_X2_heir
  refine r_iload_n (pc := 0) X dX2_heir_0 1 rfl rfl ?_
  refine r_if_lt (pc := 1) (tgt := 9) X dX2_heir_1 (by decide) ?_ ?_
  · refine r_sub [0] rfl ?_
    exact s_X2_heir_j9 X Z hy σ
  · refine r_iload_n (pc := 4) X dX2_heir_4 1 rfl rfl ?_
    refine r_iconst (pc := 5) X dX2_heir_5 kc_1 ?_
    refine r_icmp_le (pc := 6) (tgt := 16) X dX2_heir_6 (by decide) ?_ ?_
    · refine r_iload_n (pc := 16) X dX2_heir_16 1 rfl rfl ?_
      refine r_if_ne (pc := 17) (tgt := 27) X dX2_heir_17 (by decide) ?_ ?_
      · refine r_aload_n (pc := 27) X dX2_heir_27 0 rfl rfl ?_
        refine r_callvp (pc := 28) X dX2_heir_28 cf_X2_strongestBag ml_X2_245 (rf rfl rfl) hy oc_0.1 hc_2 (fun b hb => m_X2_strongestBag hb) rfl rfl (Nat.le_of_ble_eq_true rfl) (fun x1 => ?_)
        exact r_iret (pc := 31) X Z dX2_heir_31 rfl
      · refine r_aload_n (pc := 20) X dX2_heir_20 0 rfl rfl ?_
        refine r_callvp (pc := 21) X dX2_heir_21 cf_X2_strongestWilled ml_X2_242 (rf rfl rfl) hy oc_0.1 hc_2 (fun b hb => m_X2_strongestWilled hb) rfl rfl (Nat.le_of_ble_eq_true rfl) (fun x3 => ?_)
        refine r_goto (pc := 24) (tgt := 31) X dX2_heir_24 (by decide) ?_
        exact r_iret (pc := 31) X Z dX2_heir_31 rfl
    · refine r_sub [0] rfl ?_
      exact s_X2_heir_j9 X Z hy σ

set_option maxRecDepth 100000 in
theorem s_X2_far_j22 {y : LY} {l : Launch} {E : ET} (X : CX y l E cX2_far 3 RX2 (rmd 2)) (Z : ZX E (some .int)) (hy : y.1 ≤ (eS E).heap.size)     (σ : ST) : WW y l E 3 (fun a => QM y E (xI a)) 22 [(0, .ref (ad y 0))] [] σ (T_X2_far_j22   σ) := by
  unfold T_X2_far_j22
  refine r_aload_n (pc := 22) X dX2_far_22 0 rfl rfl ?_
  refine r_iconst (pc := 23) X dX2_far_23 kc_m1 ?_
  refine r_callvI (pc := 24) X dX2_far_24 cf_X2_refuse ml_X2_60 (rf rfl rfl) hy oc_0.1 hc_2 (fun b hb => m_X2_refuse hb) rfl rfl (Nat.le_of_ble_eq_true rfl) (fun x1 σ2 => ?_)
  exact r_iret (pc := 27) X Z dX2_far_27 rfl

set_option maxRecDepth 100000 in
theorem m_X2_far {y : LY} {l : Launch}  {a0 : Int32} {a1 : Int32} {σ : ST} {a : (Int32 × ST)} (h : T_X2_far a0 a1 σ = some a) : MU y l yX2_far cX2_far 3 (some .int) (rmd 2) [.ref (ad y 0), .int a0, .int a1] σ (xI a) := by
  refine MU.of (φ := xI) h (by decide +kernel) rfl (fun E X Z hy => ?_)
  have X : CX y l E cX2_far 3 RX2 (rmd 2) := X
  show WW y l E 3 _ 0 [(0, .ref (ad y 0)), (1, .int a0), (2, .int a1)] [] σ (T_X2_far a0 a1 σ)
  unfold T_X2_far
  refine r_aload_n (pc := 0) X dX2_far_0 0 rfl rfl ?_
  refine r_geto (pc := 1) 1 X dX2_far_1 fl_X2_12 rfl (by decide) ?_
  refine r_iload_n (pc := 4) X dX2_far_4 1 rfl rfl ?_
  refine r_callvp (pc := 5) X dX2_far_5 cf_X0_hasBearer ml_X2_135 (rf rfl rfl) hy oc_1.1 (hc_0 (by decide)) (fun b hb => m_X0_hasBearer (by decide) hb) rfl rfl (Nat.le_of_ble_eq_true rfl) (fun x1 => ?_)
  refine r_if_eq (pc := 8) (tgt := 22) X dX2_far_8 (by decide) ?_ ?_
  · refine r_sub [0] rfl ?_
    exact s_X2_far_j22 X Z hy σ
  · refine r_aload_n (pc := 11) X dX2_far_11 0 rfl rfl ?_
    refine r_geto (pc := 12) 1 X dX2_far_12 fl_X2_12 rfl (by decide) ?_
    refine r_iload_n (pc := 15) X dX2_far_15 2 rfl rfl ?_
    refine r_callvp (pc := 16) X dX2_far_16 cf_X0_hasBearer ml_X2_135 (rf rfl rfl) hy oc_1.1 (hc_0 (by decide)) (fun b hb => m_X0_hasBearer (by decide) hb) rfl rfl (Nat.le_of_ble_eq_true rfl) (fun x3 => ?_)
    refine r_if_ne (pc := 19) (tgt := 28) X dX2_far_19 (by decide) ?_ ?_
    · refine r_aload_n (pc := 28) X dX2_far_28 0 rfl rfl ?_
      refine r_geto (pc := 29) 1 X dX2_far_29 fl_X2_12 rfl (by decide) ?_
      refine r_geta (pc := 32) X dX2_far_32 fl_X2_144 oc_1 (by decide) ?_
      refine r_iload_n (pc := 35) X dX2_far_35 1 rfl rfl ?_
      refine r_iald (pc := 36) X dX2_far_36 ar_1_10 (fun x5 => ?_)
      refine r_aload_n (pc := 37) X dX2_far_37 0 rfl rfl ?_
      refine r_geto (pc := 38) 1 X dX2_far_38 fl_X2_12 rfl (by decide) ?_
      refine r_geta (pc := 41) X dX2_far_41 fl_X2_144 oc_1 (by decide) ?_
      refine r_iload_n (pc := 44) X dX2_far_44 2 rfl rfl ?_
      refine r_iald (pc := 45) X dX2_far_45 ar_1_10 (fun x6 => ?_)
      refine r_callsp (pc := 46) X dX2_far_46 cf_X2_placesApart ml_X2_228 (rf rfl rfl) hy (fun b hb => m_X2_placesApart hb) rfl rfl (Nat.le_of_ble_eq_true rfl) (fun x7 => ?_)
      exact r_iret (pc := 49) X Z dX2_far_49 rfl
    · refine r_sub [0] rfl ?_
      exact s_X2_far_j22 X Z hy σ

set_option maxRecDepth 100000 in
theorem s_X2_lots_j34 {y : LY} {l : Launch} {E : ET} (X : CX y l E cX2_lots 8 RX2 (rmd 5)) (Z : ZX E (some .int)) (hy : y.1 ≤ (eS E).heap.size)     (σ : ST) : WW y l E 8 (fun a => QM y E (xI a)) 34 [(0, .ref (ad y 0))] [] σ (T_X2_lots_j34   σ) := by
  unfold T_X2_lots_j34
  refine r_aload_n (pc := 34) X dX2_lots_34 0 rfl rfl ?_
  refine r_bipush (pc := 35) X dX2_lots_35 kb_m2 ?_
  refine r_callvI (pc := 37) X dX2_lots_37 cf_X2_refuse ml_X2_60 (rf rfl rfl) hy oc_0.1 hc_2 (fun b hb => m_X2_refuse hb) rfl rfl (Nat.le_of_ble_eq_true rfl) (fun x1 σ2 => ?_)
  exact r_iret (pc := 40) X Z dX2_lots_40 rfl

set_option maxRecDepth 100000 in
theorem s_X2_lots_L63 {y : LY} {l : Launch} {E : ET} (X : CX y l E cX2_lots 8 RX2 (rmd 5)) (Z : ZX E (some .int)) (hy : y.1 ≤ (eS E).heap.size)   {K50 : Int32 → Int32 → Int32 → Int32 → Int32 → ST → Option (Int32 × ST)} (hK50 : ∀ (v1 : Int32) (v3 : Int32) (v4 : Int32) (v5 : Int32) (v6 : Int32) (σ : ST), WW y l E 8 (fun a => QM y E (xI a)) 50 [(0, .ref (ad y 0)), (1, .int v1), (3, .int v3), (4, .int v4), (5, .int v5), (6, .int v6)] [] σ (K50 v1 v3 v4 v5 v6 σ)) (n : Nat) : ∀ (v1 : Int32) (v3 : Int32) (v4 : Int32) (v5 : Int32) (v6 : Int32) (v7 : Int32) (σ : ST), WW y l E 8 (fun a => QM y E (xI a)) 63 [(0, .ref (ad y 0)), (1, .int v1), (3, .int v3), (4, .int v4), (5, .int v5), (6, .int v6), (7, .int v7)] [] σ (T_X2_lots_L63 K50 n v1 v3 v4 v5 v6 v7 σ) := by
  induction n with
  | zero => intros; exact r_none rfl
  | succ n ih =>
    intro v1 v3 v4 v5 v6 v7 σ
    unfold T_X2_lots_L63
    refine r_iload (pc := 63) X dX2_lots_63 6 rfl ?_
    refine r_aload_n (pc := 65) X dX2_lots_65 0 rfl rfl ?_
    refine r_geto (pc := 66) 2 X dX2_lots_66 fl_X2_16 rfl (by decide) ?_
    refine r_geti (pc := 69) X dX2_lots_69 fl_X2_159 oc_2 rfl (fun x1 => ?_)
    refine r_icmp_ge (pc := 72) (tgt := 113) X dX2_lots_72 (by decide) ?_ ?_
    · refine r_aload_n (pc := 113) X dX2_lots_113 0 rfl rfl ?_
      refine r_geto (pc := 114) 2 X dX2_lots_114 fl_X2_16 rfl (by decide) ?_
      refine r_bipush (pc := 117) X dX2_lots_117 kb_24 ?_
      refine r_callvV (pc := 119) X dX2_lots_119 cf_X0_goHours ml_X2_107 (rf rfl rfl) hy oc_2.1 (hc_0 (by decide)) (fun b hb => m_X0_goHours (by decide) hb) rfl rfl (Nat.le_of_ble_eq_true rfl) (fun σ3 => ?_)
      refine r_iload (pc := 122) X dX2_lots_122 4 rfl ?_
      refine r_iload_n (pc := 124) X dX2_lots_124 2 rfl rfl ?_
      refine r_if_ne (pc := 125) (tgt := 138) X dX2_lots_125 (by decide) ?_ ?_
      · refine r_aload_n (pc := 138) X dX2_lots_138 0 rfl rfl ?_
        refine r_geto (pc := 139) 2 X dX2_lots_139 fl_X2_16 rfl (by decide) ?_
        refine r_geti (pc := 142) X dX2_lots_142 fl_X2_181 oc_2 rfl (fun x4 => ?_)
        refine r_iadd (pc := 145) X dX2_lots_145 ?_
        refine r_vl (fun x5 => ?_)
        refine r_istore (pc := 146) (lv' := [(5, .int _), (0, .ref _), (1, .int _), (3, .int _), (4, .int _), (6, .int _), (7, .int _)]) X dX2_lots_146 (by decide) rfl ?_
        refine r_iinc (pc := 148) (lv' := [(5, .int _), (0, .ref _), (1, .int _), (3, .int _), (4, .int _), (7, .int _)]) X dX2_lots_148 5 rfl (congrArg (fun z => v6 + z) kc_1) (by decide) rfl (fun x6 => ?_)
        refine r_goto (pc := 151) (tgt := 50) X dX2_lots_151 (by decide) ?_
        refine r_sub [2, 3, 4, 5, 1, 0] rfl ?_
        exact hK50 v1 v3 v4 x5 x6 σ3
      · refine r_aload_n (pc := 128) X dX2_lots_128 0 rfl rfl ?_
        refine r_geto (pc := 129) 2 X dX2_lots_129 fl_X2_16 rfl (by decide) ?_
        refine r_callvp (pc := 132) X dX2_lots_132 cf_X0_allLedHours ml_X2_235 (rf rfl rfl) hy oc_2.1 (hc_0 (by decide)) (fun b hb => m_X0_allLedHours (by decide) hb) rfl rfl (Nat.le_of_ble_eq_true rfl) (fun x7 => ?_)
        refine r_goto (pc := 135) (tgt := 145) X dX2_lots_135 (by decide) ?_
        refine r_iadd (pc := 145) X dX2_lots_145 ?_
        refine r_vl (fun x9 => ?_)
        refine r_istore (pc := 146) (lv' := [(5, .int _), (0, .ref _), (1, .int _), (3, .int _), (4, .int _), (6, .int _), (7, .int _)]) X dX2_lots_146 (by decide) rfl ?_
        refine r_iinc (pc := 148) (lv' := [(5, .int _), (0, .ref _), (1, .int _), (3, .int _), (4, .int _), (7, .int _)]) X dX2_lots_148 5 rfl (congrArg (fun z => v6 + z) kc_1) (by decide) rfl (fun x10 => ?_)
        refine r_goto (pc := 151) (tgt := 50) X dX2_lots_151 (by decide) ?_
        refine r_sub [2, 3, 4, 5, 1, 0] rfl ?_
        exact hK50 v1 v3 v4 x9 x10 σ3
    · refine r_iload (pc := 75) X dX2_lots_75 3 rfl ?_
      refine r_ldc (pc := 77) X dX2_lots_77 lc_X2_248 ?_
      refine r_imul (pc := 79) X dX2_lots_79 ?_
      refine r_sipush (pc := 80) X dX2_lots_80 ks_12345 ?_
      refine r_iadd (pc := 83) X dX2_lots_83 ?_
      refine r_vl (fun x11 => ?_)
      refine r_istore (pc := 84) (lv' := [(4, .int _), (0, .ref _), (1, .int _), (3, .int _), (5, .int _), (6, .int _), (7, .int _)]) X dX2_lots_84 (by decide) rfl ?_
      refine r_aload_n (pc := 86) X dX2_lots_86 1 rfl rfl ?_
      refine r_geto (pc := 87) 2 X dX2_lots_87 fl_X2_16 rfl (by decide) ?_
      refine r_geta (pc := 90) X dX2_lots_90 fl_X2_141 oc_2 (by decide) ?_
      refine r_iload (pc := 93) X dX2_lots_93 6 rfl ?_
      refine r_iload (pc := 95) X dX2_lots_95 0 rfl ?_
      refine r_ldc (pc := 97) X dX2_lots_97 lc_X2_249 ?_
      refine r_iand (pc := 99) X dX2_lots_99 ?_
      refine r_ldc (pc := 100) X dX2_lots_100 lc_X2_250 ?_
      refine r_idiv (pc := 102) X dX2_lots_102 (by decide) ?_
      refine r_bipush (pc := 103) X dX2_lots_103 kb_10 ?_
      refine r_irem (pc := 105) X dX2_lots_105 (by decide) ?_
      refine r_iast (pc := 106) X dX2_lots_106 ar_2_9 (fun σ12 => ?_)
      refine r_iinc (pc := 107) (lv' := [(4, .int _), (0, .ref _), (1, .int _), (3, .int _), (5, .int _), (6, .int _)]) X dX2_lots_107 6 rfl (congrArg (fun z => v7 + z) kc_1) (by decide) rfl (fun x13 => ?_)
      refine r_goto (pc := 110) (tgt := 63) X dX2_lots_110 (by decide) ?_
      refine r_sub [2, 3, 4, 1, 5, 6, 0] rfl ?_
      exact ih v1 v3 x11 v5 v6 x13 σ12

set_option maxRecDepth 100000 in
theorem s_X2_lots_L50 {y : LY} {l : Launch} {E : ET} (X : CX y l E cX2_lots 8 RX2 (rmd 5)) (Z : ZX E (some .int)) (hy : y.1 ≤ (eS E).heap.size)     (n : Nat) : ∀ (v1 : Int32) (v3 : Int32) (v4 : Int32) (v5 : Int32) (v6 : Int32) (σ : ST), WW y l E 8 (fun a => QM y E (xI a)) 50 [(0, .ref (ad y 0)), (1, .int v1), (3, .int v3), (4, .int v4), (5, .int v5), (6, .int v6)] [] σ (T_X2_lots_L50  n v1 v3 v4 v5 v6 σ) := by
  induction n with
  | zero => intros; exact r_none rfl
  | succ n ih =>
    intro v1 v3 v4 v5 v6 σ
    unfold T_X2_lots_L50
    refine r_iload (pc := 50) X dX2_lots_50 5 rfl ?_
    refine r_iload_n (pc := 52) X dX2_lots_52 1 rfl rfl ?_
    refine r_icmp_ge (pc := 53) (tgt := 154) X dX2_lots_53 (by decide) ?_ ?_
    · refine r_iload (pc := 154) X dX2_lots_154 4 rfl ?_
      exact r_iret (pc := 156) X Z dX2_lots_156 rfl
    · refine r_aload_n (pc := 56) X dX2_lots_56 0 rfl rfl ?_
      refine r_callvV (pc := 57) X dX2_lots_57 cf_X2_think ml_X2_67 (rf rfl rfl) hy oc_0.1 hc_2 (fun b hb => m_X2_think hb) rfl rfl (Nat.le_of_ble_eq_true rfl) (fun σ2 => ?_)
      refine r_iconst (pc := 60) X dX2_lots_60 kc_0 ?_
      refine r_istore (pc := 61) (lv' := [(7, .int _), (0, .ref _), (1, .int _), (3, .int _), (4, .int _), (5, .int _), (6, .int _)]) X dX2_lots_61 (by decide) rfl ?_
      refine r_sub [1, 2, 3, 4, 5, 6, 0] rfl ?_
      exact s_X2_lots_L63 X Z hy (fun v1 v3 v4 v5 v6 s => ih v1 v3 v4 v5 v6 s) FU v1 v3 v4 v5 v6 0 σ2

set_option maxRecDepth 100000 in
theorem m_X2_lots {y : LY} {l : Launch}  {a0 : Int32} {a1 : Int32} {a2 : Int32} {σ : ST} {a : (Int32 × ST)} (h : T_X2_lots a0 a1 a2 σ = some a) : MU y l yX2_lots cX2_lots 8 (some .int) (rmd 5) [.ref (ad y 0), .int a0, .int a1, .int a2] σ (xI a) := by
  refine MU.of (φ := xI) h (by decide +kernel) rfl (fun E X Z hy => ?_)
  have X : CX y l E cX2_lots 8 RX2 (rmd 5) := X
  show WW y l E 8 _ 0 [(0, .ref (ad y 0)), (1, .int a0), (2, .int a1), (3, .int a2)] [] σ (T_X2_lots a0 a1 a2 σ)
  unfold T_X2_lots
  refine r_iload_n (pc := 0) X dX2_lots_0 1 rfl rfl ?_
  refine r_iconst (pc := 1) X dX2_lots_1 kc_1 ?_
  refine r_icmp_ge (pc := 2) (tgt := 12) X dX2_lots_2 (by decide) ?_ ?_
  · refine r_iload_n (pc := 12) X dX2_lots_12 1 rfl rfl ?_
    refine r_bipush (pc := 13) X dX2_lots_13 kb_20 ?_
    refine r_icmp_le (pc := 15) (tgt := 25) X dX2_lots_15 (by decide) ?_ ?_
    · refine r_iload_n (pc := 25) X dX2_lots_25 3 rfl rfl ?_
      refine r_if_lt (pc := 26) (tgt := 34) X dX2_lots_26 (by decide) ?_ ?_
      · refine r_sub [0] rfl ?_
        exact s_X2_lots_j34 X Z hy σ
      · refine r_iload_n (pc := 29) X dX2_lots_29 3 rfl rfl ?_
        refine r_iconst (pc := 30) X dX2_lots_30 kc_1 ?_
        refine r_icmp_le (pc := 31) (tgt := 41) X dX2_lots_31 (by decide) ?_ ?_
        · refine r_iload_n (pc := 41) X dX2_lots_41 2 rfl rfl ?_
          refine r_istore (pc := 42) (lv' := [(4, .int _), (0, .ref _), (1, .int _), (2, .int _), (3, .int _)]) X dX2_lots_42 (by decide) rfl ?_
          refine r_iconst (pc := 44) X dX2_lots_44 kc_0 ?_
          refine r_istore (pc := 45) (lv' := [(5, .int _), (4, .int _), (0, .ref _), (1, .int _), (2, .int _), (3, .int _)]) X dX2_lots_45 (by decide) rfl ?_
          refine r_iconst (pc := 47) X dX2_lots_47 kc_0 ?_
          refine r_istore (pc := 48) (lv' := [(6, .int _), (5, .int _), (4, .int _), (0, .ref _), (1, .int _), (2, .int _), (3, .int _)]) X dX2_lots_48 (by decide) rfl ?_
          refine r_sub [3, 4, 6, 2, 1, 0] rfl ?_
          exact s_X2_lots_L50 X Z hy FU a0 a2 a1 0 0 σ
        · refine r_sub [0] rfl ?_
          exact s_X2_lots_j34 X Z hy σ
    · refine r_aload_n (pc := 18) X dX2_lots_18 0 rfl rfl ?_
      refine r_bipush (pc := 19) X dX2_lots_19 kb_m6 ?_
      refine r_callvI (pc := 21) X dX2_lots_21 cf_X2_refuse ml_X2_60 (rf rfl rfl) hy oc_0.1 hc_2 (fun b hb => m_X2_refuse hb) rfl rfl (Nat.le_of_ble_eq_true rfl) (fun x1 σ2 => ?_)
      exact r_iret (pc := 24) X Z dX2_lots_24 rfl
  · refine r_aload_n (pc := 5) X dX2_lots_5 0 rfl rfl ?_
    refine r_bipush (pc := 6) X dX2_lots_6 kb_m4 ?_
    refine r_callvI (pc := 8) X dX2_lots_8 cf_X2_refuse ml_X2_60 (rf rfl rfl) hy oc_0.1 hc_2 (fun b hb => m_X2_refuse hb) rfl rfl (Nat.le_of_ble_eq_true rfl) (fun x3 σ4 => ?_)
    exact r_iret (pc := 11) X Z dX2_lots_11 rfl

set_option maxRecDepth 100000 in
theorem s_X2_thinkGiven_L13 {y : LY} {l : Launch} {E : ET} (X : CX y l E cX2_thinkGiven 2 RX2 (rmd 3)) (Z : ZX E none) (hy : y.1 ≤ (eS E).heap.size)     (n : Nat) : ∀ (v1 : Int32) (σ : ST), WW y l E 2 (fun a => QM y E (xV a)) 13 [(0, .ref (ad y 0)), (1, .int v1)] [] σ (T_X2_thinkGiven_L13  n v1 σ) := by
  induction n with
  | zero => intros; exact r_none rfl
  | succ n ih =>
    intro v1 σ
    unfold T_X2_thinkGiven_L13
    refine r_iload_n (pc := 13) X dX2_thinkGiven_13 1 rfl rfl ?_
    refine r_aload_n (pc := 14) X dX2_thinkGiven_14 0 rfl rfl ?_
    refine r_geto (pc := 15) 2 X dX2_thinkGiven_15 fl_X2_16 rfl (by decide) ?_
    refine r_geti (pc := 18) X dX2_thinkGiven_18 fl_X2_159 oc_2 rfl (fun x1 => ?_)
    refine r_icmp_ge (pc := 21) (tgt := 47) X dX2_thinkGiven_21 (by decide) ?_ ?_
    · exact r_vret (pc := 47) X Z dX2_thinkGiven_47 rfl
    · refine r_aload_n (pc := 24) X dX2_thinkGiven_24 0 rfl rfl ?_
      refine r_geto (pc := 25) 2 X dX2_thinkGiven_25 fl_X2_16 rfl (by decide) ?_
      refine r_aload_n (pc := 28) X dX2_thinkGiven_28 0 rfl rfl ?_
      refine r_geto (pc := 29) 12 X dX2_thinkGiven_29 fl_X2_56 rfl (by decide) ?_
      refine r_iload_n (pc := 32) X dX2_thinkGiven_32 1 rfl rfl ?_
      refine r_callvp (pc := 33) X dX2_thinkGiven_33 cf_X1_choiceOf ml_X2_280 (rf rfl rfl) hy oc_12.1 hc_1 (fun b hb => m_X1_choiceOf hb) rfl rfl (Nat.le_of_ble_eq_true rfl) (fun x2 => ?_)
      refine r_iload_n (pc := 36) X dX2_thinkGiven_36 1 rfl rfl ?_
      refine r_callvI (pc := 37) X dX2_thinkGiven_37 cf_X0_hand ml_X2_94 (rf rfl rfl) hy oc_2.1 (hc_0 (by decide)) (fun b hb => m_X0_hand (by decide) hb) rfl rfl (Nat.le_of_ble_eq_true rfl) (fun x4 σ5 => ?_)
      refine r_pop (pc := 40) X dX2_thinkGiven_40 rfl ?_
      refine r_iinc (pc := 41) (lv' := [(0, .ref _)]) X dX2_thinkGiven_41 1 rfl (congrArg (fun z => v1 + z) kc_1) (by decide) rfl (fun x6 => ?_)
      refine r_goto (pc := 44) (tgt := 13) X dX2_thinkGiven_44 (by decide) ?_
      refine r_sub [1, 0] rfl ?_
      exact ih x6 σ5

set_option maxRecDepth 100000 in
theorem m_X2_thinkGiven {y : LY} {l : Launch}   {σ : ST} {a : ST} (h : T_X2_thinkGiven σ = some a) : MU y l yX2_thinkGiven cX2_thinkGiven 2 none (rmd 3) [.ref (ad y 0)] σ (xV a) := by
  refine MU.of (φ := xV) h (by decide +kernel) rfl (fun E X Z hy => ?_)
  have X : CX y l E cX2_thinkGiven 2 RX2 (rmd 3) := X
  show WW y l E 2 _ 0 [(0, .ref (ad y 0))] [] σ (T_X2_thinkGiven σ)
  unfold T_X2_thinkGiven
  refine r_aload_n (pc := 0) X dX2_thinkGiven_0 0 rfl rfl ?_
  refine r_callvV (pc := 1) X dX2_thinkGiven_1 cf_X2_think ml_X2_67 (rf rfl rfl) hy oc_0.1 hc_2 (fun b hb => m_X2_think hb) rfl rfl (Nat.le_of_ble_eq_true rfl) (fun σ2 => ?_)
  refine r_aload_n (pc := 4) X dX2_thinkGiven_4 0 rfl rfl ?_
  refine r_geto (pc := 5) 2 X dX2_thinkGiven_5 fl_X2_16 rfl (by decide) ?_
  refine r_callvV (pc := 8) X dX2_thinkGiven_8 cf_X0_takeAllBags ml_X2_277 (rf rfl rfl) hy oc_2.1 (hc_0 (by decide)) (fun b hb => m_X0_takeAllBags (by decide) hb) rfl rfl (Nat.le_of_ble_eq_true rfl) (fun σ4 => ?_)
  refine r_iconst (pc := 11) X dX2_thinkGiven_11 kc_0 ?_
  refine r_istore_n (pc := 12) (lv' := [(1, .int _), (0, .ref _)]) X dX2_thinkGiven_12 rfl (by decide) rfl ?_
  refine r_sub [1, 0] rfl ?_
  exact s_X2_thinkGiven_L13 X Z hy FU 0 σ4

set_option maxRecDepth 100000 in
theorem s_X2_given_L73 {y : LY} {l : Launch} {E : ET} (X : CX y l E cX2_given 7 RX2 (rmd 6)) (Z : ZX E (some .int)) (hy : y.1 ≤ (eS E).heap.size)     (n : Nat) : ∀ (v1 : Int32) (v2 : Int32) (v3 : Int32) (v4 : Int32) (v5 : Int32) (σ : ST), WW y l E 7 (fun a => QM y E (xI a)) 73 [(0, .ref (ad y 0)), (1, .int v1), (2, .int v2), (3, .int v3), (4, .int v4), (5, .int v5)] [] σ (T_X2_given_L73  n v1 v2 v3 v4 v5 σ) := by
  induction n with
  | zero => intros; exact r_none rfl
  | succ n ih =>
    intro v1 v2 v3 v4 v5 σ
    unfold T_X2_given_L73
    refine r_iload (pc := 73) X dX2_given_73 5 rfl ?_
    refine r_aload_n (pc := 75) X dX2_given_75 0 rfl rfl ?_
    refine r_geto (pc := 76) 12 X dX2_given_76 fl_X2_56 rfl (by decide) ?_
    refine r_geti (pc := 79) X dX2_given_79 fl_X2_254 oc_12 rfl (fun x1 => ?_)
    refine r_icmp_ge (pc := 82) (tgt := 142) X dX2_given_82 (by decide) ?_ ?_
    · refine r_iload_n (pc := 142) X dX2_given_142 3 rfl rfl ?_
      refine r_iconst (pc := 143) X dX2_given_143 kc_m1 ?_
      refine r_icmp_ne (pc := 144) (tgt := 155) X dX2_given_144 (by decide) ?_ ?_
      · refine r_aload_n (pc := 155) X dX2_given_155 0 rfl rfl ?_
        refine r_geto (pc := 156) 12 X dX2_given_156 fl_X2_56 rfl (by decide) ?_
        refine r_iload_n (pc := 159) X dX2_given_159 3 rfl rfl ?_
        refine r_callvp (pc := 160) X dX2_given_160 cf_X1_bestBagOf ml_X2_271 (rf rfl rfl) hy oc_12.1 hc_1 (fun b hb => m_X1_bestBagOf hb) rfl rfl (Nat.le_of_ble_eq_true rfl) (fun x2 => ?_)
        exact r_iret (pc := 163) X Z dX2_given_163 rfl
      · refine r_iload (pc := 147) X dX2_given_147 4 rfl ?_
        refine r_callsp (pc := 149) X dX2_given_149 cf_X2_orNone ml_X2_196 (rf rfl rfl) hy (fun b hb => m_X2_orNone hb) rfl rfl (Nat.le_of_ble_eq_true rfl) (fun x4 => ?_)
        refine r_goto (pc := 152) (tgt := 163) X dX2_given_152 (by decide) ?_
        exact r_iret (pc := 163) X Z dX2_given_163 rfl
    · refine r_aload_n (pc := 85) X dX2_given_85 0 rfl rfl ?_
      refine r_geto (pc := 86) 12 X dX2_given_86 fl_X2_56 rfl (by decide) ?_
      refine r_iload (pc := 89) X dX2_given_89 5 rfl ?_
      refine r_callvI (pc := 91) X dX2_given_91 cf_X1_decode ml_X2_257 (rf rfl rfl) hy oc_12.1 hc_1 (fun b hb => m_X1_decode hb) rfl rfl (Nat.le_of_ble_eq_true rfl) (fun x6 σ7 => ?_)
      refine r_if_eq (pc := 94) (tgt := 136) X dX2_given_94 (by decide) ?_ ?_
      · refine r_iinc (pc := 136) (lv' := [(0, .ref _), (1, .int _), (2, .int _), (3, .int _), (4, .int _)]) X dX2_given_136 5 rfl (congrArg (fun z => v5 + z) kc_1) (by decide) rfl (fun x8 => ?_)
        refine r_goto (pc := 139) (tgt := 73) X dX2_given_139 (by decide) ?_
        refine r_sub [1, 2, 3, 4, 5, 0] rfl ?_
        exact ih v1 v2 v3 v4 x8 σ7
      · refine r_aload_n (pc := 97) X dX2_given_97 0 rfl rfl ?_
        refine r_callvV (pc := 98) X dX2_given_98 cf_X2_thinkGiven ml_X2_260 (rf rfl rfl) hy oc_0.1 hc_2 (fun b hb => m_X2_thinkGiven hb) rfl rfl (Nat.le_of_ble_eq_true rfl) (fun σ10 => ?_)
        refine r_aload_n (pc := 101) X dX2_given_101 0 rfl rfl ?_
        refine r_iload_n (pc := 102) X dX2_given_102 1 rfl rfl ?_
        refine r_iload_n (pc := 103) X dX2_given_103 2 rfl rfl ?_
        refine r_iload (pc := 104) X dX2_given_104 4 rfl ?_
        refine r_iconst (pc := 106) X dX2_given_106 kc_1 ?_
        refine r_isub (pc := 107) X dX2_given_107 ?_
        refine r_bipush (pc := 108) X dX2_given_108 kb_60 ?_
        refine r_callsp (pc := 110) X dX2_given_110 cf_J9_min_7cf53 ml_X2_263 (rf rfl rfl) hy (fun b hb => m_J9_min_7cf53 hb) rfl rfl (Nat.le_of_ble_eq_true rfl) (fun x11 => ?_)
        refine r_callvI (pc := 113) X dX2_given_113 cf_X2_firstMeeting ml_X2_193 (rf rfl rfl) hy oc_0.1 hc_2 (fun b hb => m_X2_firstMeeting hb) rfl rfl (Nat.le_of_ble_eq_true rfl) (fun x13 σ14 => ?_)
        refine r_istore (pc := 116) (lv' := [(6, .int _), (0, .ref _), (1, .int _), (2, .int _), (3, .int _), (4, .int _), (5, .int _)]) X dX2_given_116 (by decide) rfl ?_
        refine r_iload (pc := 118) X dX2_given_118 0 rfl ?_
        refine r_iload (pc := 120) X dX2_given_120 5 rfl ?_
        refine r_icmp_ge (pc := 122) (tgt := 136) X dX2_given_122 (by decide) ?_ ?_
        · refine r_iinc (pc := 136) (lv' := [(6, .int _), (0, .ref _), (1, .int _), (2, .int _), (3, .int _), (4, .int _)]) X dX2_given_136 6 rfl (congrArg (fun z => v5 + z) kc_1) (by decide) rfl (fun x15 => ?_)
          refine r_goto (pc := 139) (tgt := 73) X dX2_given_139 (by decide) ?_
          refine r_sub [2, 3, 4, 5, 6, 0] rfl ?_
          exact ih v1 v2 v3 v4 x15 σ14
        · refine r_iload (pc := 125) X dX2_given_125 0 rfl ?_
          refine r_istore (pc := 127) (lv' := [(4, .int _), (6, .int _), (0, .ref _), (1, .int _), (2, .int _), (3, .int _), (5, .int _)]) X dX2_given_127 (by decide) rfl ?_
          refine r_aload_n (pc := 129) X dX2_given_129 2 rfl rfl ?_
          refine r_geto (pc := 130) 12 X dX2_given_130 fl_X2_56 rfl (by decide) ?_
          refine r_callvV (pc := 133) X dX2_given_133 cf_X1_keepBest ml_X2_268 (rf rfl rfl) hy oc_12.1 hc_1 (fun b hb => m_X1_keepBest hb) rfl rfl (Nat.le_of_ble_eq_true rfl) (fun σ17 => ?_)
          refine r_iinc (pc := 136) (lv' := [(4, .int _), (6, .int _), (0, .ref _), (1, .int _), (2, .int _), (3, .int _)]) X dX2_given_136 6 rfl (congrArg (fun z => v5 + z) kc_1) (by decide) rfl (fun x18 => ?_)
          refine r_goto (pc := 139) (tgt := 73) X dX2_given_139 (by decide) ?_
          refine r_sub [3, 4, 5, 6, 1, 0] rfl ?_
          exact ih v1 v2 v3 x13 x18 σ17

set_option maxRecDepth 100000 in
theorem m_X2_given {y : LY} {l : Launch}  {a0 : Int32} {a1 : Int32} {a2 : Int32} {σ : ST} {a : (Int32 × ST)} (h : T_X2_given a0 a1 a2 σ = some a) : MU y l yX2_given cX2_given 7 (some .int) (rmd 6) [.ref (ad y 0), .int a0, .int a1, .int a2] σ (xI a) := by
  refine MU.of (φ := xI) h (by decide +kernel) rfl (fun E X Z hy => ?_)
  have X : CX y l E cX2_given 7 RX2 (rmd 6) := X
  show WW y l E 7 _ 0 [(0, .ref (ad y 0)), (1, .int a0), (2, .int a1), (3, .int a2)] [] σ (T_X2_given a0 a1 a2 σ)
  unfold T_X2_given
  refine r_aload_n (pc := 0) X dX2_given_0 0 rfl rfl ?_
  refine r_iload_n (pc := 1) X dX2_given_1 1 rfl rfl ?_
  refine r_iload_n (pc := 2) X dX2_given_2 2 rfl rfl ?_
  refine r_callvp (pc := 3) X dX2_given_3 cf_X2_areTwo ml_X2_190 (rf rfl rfl) hy oc_0.1 hc_2 (fun b hb => m_X2_areTwo hb) rfl rfl (Nat.le_of_ble_eq_true rfl) (fun x1 => ?_)
  refine r_if_ne (pc := 6) (tgt := 15) X dX2_given_6 (by decide) ?_ ?_
  · refine r_iload_n (pc := 15) X dX2_given_15 3 rfl rfl ?_
    refine r_iconst (pc := 16) X dX2_given_16 kc_m1 ?_
    refine r_icmp_ge (pc := 17) (tgt := 27) X dX2_given_17 (by decide) ?_ ?_
    · refine r_aload_n (pc := 27) X dX2_given_27 0 rfl rfl ?_
      refine r_geto (pc := 28) 1 X dX2_given_28 fl_X2_12 rfl (by decide) ?_
      refine r_geti (pc := 31) X dX2_given_31 fl_X2_159 oc_1 rfl (fun x3 => ?_)
      refine r_iconst (pc := 34) X dX2_given_34 kc_4 ?_
      refine r_icmp_le (pc := 35) (tgt := 45) X dX2_given_35 (by decide) ?_ ?_
      · refine r_aload_n (pc := 45) X dX2_given_45 0 rfl rfl ?_
        refine r_geto (pc := 46) 12 X dX2_given_46 fl_X2_56 rfl (by decide) ?_
        refine r_aload_n (pc := 49) X dX2_given_49 0 rfl rfl ?_
        refine r_geto (pc := 50) 1 X dX2_given_50 fl_X2_12 rfl (by decide) ?_
        refine r_geti (pc := 53) X dX2_given_53 fl_X2_156 oc_1 rfl (fun x4 => ?_)
        refine r_aload_n (pc := 56) X dX2_given_56 0 rfl rfl ?_
        refine r_geto (pc := 57) 1 X dX2_given_57 fl_X2_12 rfl (by decide) ?_
        refine r_geti (pc := 60) X dX2_given_60 fl_X2_159 oc_1 rfl (fun x5 => ?_)
        refine r_callvV (pc := 63) X dX2_given_63 cf_X1_start ml_X2_251 (rf rfl rfl) hy oc_12.1 hc_1 (fun b hb => m_X1_start hb) rfl rfl (Nat.le_of_ble_eq_true rfl) (fun σ7 => ?_)
        refine r_bipush (pc := 66) X dX2_given_66 kb_62 ?_
        refine r_istore (pc := 68) (lv' := [(4, .int _), (0, .ref _), (1, .int _), (2, .int _), (3, .int _)]) X dX2_given_68 (by decide) rfl ?_
        refine r_iconst (pc := 70) X dX2_given_70 kc_0 ?_
        refine r_istore (pc := 71) (lv' := [(5, .int _), (4, .int _), (0, .ref _), (1, .int _), (2, .int _), (3, .int _)]) X dX2_given_71 (by decide) rfl ?_
        refine r_sub [2, 3, 4, 5, 1, 0] rfl ?_
        exact s_X2_given_L73 X Z hy FU a0 a1 a2 62 0 σ7
      · refine r_aload_n (pc := 38) X dX2_given_38 0 rfl rfl ?_
        refine r_bipush (pc := 39) X dX2_given_39 kb_m3 ?_
        refine r_callvI (pc := 41) X dX2_given_41 cf_X2_refuse ml_X2_60 (rf rfl rfl) hy oc_0.1 hc_2 (fun b hb => m_X2_refuse hb) rfl rfl (Nat.le_of_ble_eq_true rfl) (fun x8 σ9 => ?_)
        exact r_iret (pc := 44) X Z dX2_given_44 rfl
    · refine r_aload_n (pc := 20) X dX2_given_20 0 rfl rfl ?_
      refine r_bipush (pc := 21) X dX2_given_21 kb_m4 ?_
      refine r_callvI (pc := 23) X dX2_given_23 cf_X2_refuse ml_X2_60 (rf rfl rfl) hy oc_0.1 hc_2 (fun b hb => m_X2_refuse hb) rfl rfl (Nat.le_of_ble_eq_true rfl) (fun x10 σ11 => ?_)
      exact r_iret (pc := 26) X Z dX2_given_26 rfl
  · refine r_aload_n (pc := 9) X dX2_given_9 0 rfl rfl ?_
    refine r_iconst (pc := 10) X dX2_given_10 kc_m1 ?_
    refine r_callvI (pc := 11) X dX2_given_11 cf_X2_refuse ml_X2_60 (rf rfl rfl) hy oc_0.1 hc_2 (fun b hb => m_X2_refuse hb) rfl rfl (Nat.le_of_ble_eq_true rfl) (fun x12 σ13 => ?_)
    exact r_iret (pc := 14) X Z dX2_given_14 rfl

set_option maxRecDepth 100000 in
theorem s_X2_ledHoursBelow_j32 {y : LY} {l : Launch} {E : ET} (X : CX y l E cX2_ledHoursBelow 4 RX2 (rmd 5)) (Z : ZX E (some .int)) (hy : y.1 ≤ (eS E).heap.size)     (σ : ST) : WW y l E 4 (fun a => QM y E (xI a)) 32 [(0, .ref (ad y 0))] [] σ (T_X2_ledHoursBelow_j32   σ) := by
  unfold T_X2_ledHoursBelow_j32
  refine r_aload_n (pc := 32) X dX2_ledHoursBelow_32 0 rfl rfl ?_
  refine r_geto (pc := 33) 2 X dX2_ledHoursBelow_33 fl_X2_16 rfl (by decide) ?_
  refine r_callvp (pc := 36) X dX2_ledHoursBelow_36 cf_X0_allLedHours ml_X2_235 (rf rfl rfl) hy oc_2.1 (hc_0 (by decide)) (fun b hb => m_X0_allLedHours (by decide) hb) rfl rfl (Nat.le_of_ble_eq_true rfl) (fun x1 => ?_)
  exact r_iret (pc := 39) X Z dX2_ledHoursBelow_39 rfl

set_option maxRecDepth 100000 in
theorem s_X2_ledHoursBelow_L2 {y : LY} {l : Launch} {E : ET} (X : CX y l E cX2_ledHoursBelow 4 RX2 (rmd 5)) (Z : ZX E (some .int)) (hy : y.1 ≤ (eS E).heap.size)     (n : Nat) : ∀ (v1 : Int32) (v2 : Int32) (v3 : Int32) (σ : ST), WW y l E 4 (fun a => QM y E (xI a)) 2 [(0, .ref (ad y 0)), (1, .int v1), (2, .int v2), (3, .int v3)] [] σ (T_X2_ledHoursBelow_L2  n v1 v2 v3 σ) := by
  induction n with
  | zero => intros; exact r_none rfl
  | succ n ih =>
    intro v1 v2 v3 σ
    unfold T_X2_ledHoursBelow_L2
    refine r_iload_n (pc := 2) X dX2_ledHoursBelow_2 3 rfl rfl ?_
    refine r_iload_n (pc := 3) X dX2_ledHoursBelow_3 1 rfl rfl ?_
    refine r_icmp_ge (pc := 4) (tgt := 32) X dX2_ledHoursBelow_4 (by decide) ?_ ?_
    · refine r_sub [0] rfl ?_
      exact s_X2_ledHoursBelow_j32 X Z hy σ
    · refine r_aload_n (pc := 7) X dX2_ledHoursBelow_7 0 rfl rfl ?_
      refine r_geto (pc := 8) 2 X dX2_ledHoursBelow_8 fl_X2_16 rfl (by decide) ?_
      refine r_callvp (pc := 11) X dX2_ledHoursBelow_11 cf_X0_allLedHours ml_X2_235 (rf rfl rfl) hy oc_2.1 (hc_0 (by decide)) (fun b hb => m_X0_allLedHours (by decide) hb) rfl rfl (Nat.le_of_ble_eq_true rfl) (fun x1 => ?_)
      refine r_iload_n (pc := 14) X dX2_ledHoursBelow_14 2 rfl rfl ?_
      refine r_icmp_ge (pc := 15) (tgt := 32) X dX2_ledHoursBelow_15 (by decide) ?_ ?_
      · refine r_sub [0] rfl ?_
        exact s_X2_ledHoursBelow_j32 X Z hy σ
      · refine r_aload_n (pc := 18) X dX2_ledHoursBelow_18 0 rfl rfl ?_
        refine r_geto (pc := 19) 2 X dX2_ledHoursBelow_19 fl_X2_16 rfl (by decide) ?_
        refine r_iconst (pc := 22) X dX2_ledHoursBelow_22 kc_1 ?_
        refine r_callvV (pc := 23) X dX2_ledHoursBelow_23 cf_X0_goHours ml_X2_107 (rf rfl rfl) hy oc_2.1 (hc_0 (by decide)) (fun b hb => m_X0_goHours (by decide) hb) rfl rfl (Nat.le_of_ble_eq_true rfl) (fun σ4 => ?_)
        refine r_iinc (pc := 26) (lv' := [(0, .ref _), (1, .int _), (2, .int _)]) X dX2_ledHoursBelow_26 3 rfl (congrArg (fun z => v3 + z) kc_1) (by decide) rfl (fun x5 => ?_)
        refine r_goto (pc := 29) (tgt := 2) X dX2_ledHoursBelow_29 (by decide) ?_
        refine r_sub [1, 2, 3, 0] rfl ?_
        exact ih v1 v2 x5 σ4

set_option maxRecDepth 100000 in
theorem m_X2_ledHoursBelow {y : LY} {l : Launch}  {a0 : Int32} {a1 : Int32} {σ : ST} {a : (Int32 × ST)} (h : T_X2_ledHoursBelow a0 a1 σ = some a) : MU y l yX2_ledHoursBelow cX2_ledHoursBelow 4 (some .int) (rmd 5) [.ref (ad y 0), .int a0, .int a1] σ (xI a) := by
  refine MU.of (φ := xI) h (by decide +kernel) rfl (fun E X Z hy => ?_)
  have X : CX y l E cX2_ledHoursBelow 4 RX2 (rmd 5) := X
  show WW y l E 4 _ 0 [(0, .ref (ad y 0)), (1, .int a0), (2, .int a1)] [] σ (T_X2_ledHoursBelow a0 a1 σ)
  unfold T_X2_ledHoursBelow
  refine r_iconst (pc := 0) X dX2_ledHoursBelow_0 kc_0 ?_
  refine r_istore_n (pc := 1) (lv' := [(3, .int _), (0, .ref _), (1, .int _), (2, .int _)]) X dX2_ledHoursBelow_1 rfl (by decide) rfl ?_
  refine r_sub [1, 2, 3, 0] rfl ?_
  exact s_X2_ledHoursBelow_L2 X Z hy FU a0 a1 0 σ

set_option maxRecDepth 100000 in
theorem s_X2_quiet_j9 {y : LY} {l : Launch} {E : ET} (X : CX y l E cX2_quiet 6 RX2 (rmd 6)) (Z : ZX E (some .int)) (hy : y.1 ≤ (eS E).heap.size)     (σ : ST) : WW y l E 6 (fun a => QM y E (xI a)) 9 [(0, .ref (ad y 0))] [] σ (T_X2_quiet_j9   σ) := by
  unfold T_X2_quiet_j9
  refine r_aload_n (pc := 9) X dX2_quiet_9 0 rfl rfl ?_
  refine r_bipush (pc := 10) X dX2_quiet_10 kb_m4 ?_
  refine r_callvI (pc := 12) X dX2_quiet_12 cf_X2_refuse ml_X2_60 (rf rfl rfl) hy oc_0.1 hc_2 (fun b hb => m_X2_refuse hb) rfl rfl (Nat.le_of_ble_eq_true rfl) (fun x1 σ2 => ?_)
  exact r_iret (pc := 15) X Z dX2_quiet_15 rfl

set_option maxRecDepth 100000 in
theorem s_X2_quiet_L74 {y : LY} {l : Launch} {E : ET} (X : CX y l E cX2_quiet 6 RX2 (rmd 6)) (Z : ZX E (some .int)) (hy : y.1 ≤ (eS E).heap.size)     (n : Nat) : ∀ (v1 : Int32) (v2 : Int32) (v3 : Int32) (v4 : Int32) (σ : ST), WW y l E 6 (fun a => QM y E (xI a)) 74 [(0, .ref (ad y 0)), (1, .int v1), (2, .int v2), (3, .int v3), (4, .int v4)] [] σ (T_X2_quiet_L74  n v1 v2 v3 v4 σ) := by
  induction n with
  | zero => intros; exact r_none rfl
  | succ n ih =>
    intro v1 v2 v3 v4 σ
    unfold T_X2_quiet_L74
    refine r_iload (pc := 74) X dX2_quiet_74 4 rfl ?_
    refine r_aload_n (pc := 76) X dX2_quiet_76 0 rfl rfl ?_
    refine r_geto (pc := 77) 12 X dX2_quiet_77 fl_X2_56 rfl (by decide) ?_
    refine r_geti (pc := 80) X dX2_quiet_80 fl_X2_254 oc_12 rfl (fun x1 => ?_)
    refine r_icmp_ge (pc := 83) (tgt := 132) X dX2_quiet_83 (by decide) ?_ ?_
    · refine r_iload_n (pc := 132) X dX2_quiet_132 2 rfl rfl ?_
      refine r_iconst (pc := 133) X dX2_quiet_133 kc_m1 ?_
      refine r_icmp_ne (pc := 134) (tgt := 141) X dX2_quiet_134 (by decide) ?_ ?_
      · refine r_aload_n (pc := 141) X dX2_quiet_141 0 rfl rfl ?_
        refine r_geto (pc := 142) 12 X dX2_quiet_142 fl_X2_56 rfl (by decide) ?_
        refine r_iload_n (pc := 145) X dX2_quiet_145 2 rfl rfl ?_
        refine r_callvp (pc := 146) X dX2_quiet_146 cf_X1_bestBagOf ml_X2_271 (rf rfl rfl) hy oc_12.1 hc_1 (fun b hb => m_X1_bestBagOf hb) rfl rfl (Nat.le_of_ble_eq_true rfl) (fun x2 => ?_)
        exact r_iret (pc := 149) X Z dX2_quiet_149 rfl
      · refine r_iload_n (pc := 137) X dX2_quiet_137 3 rfl rfl ?_
        refine r_goto (pc := 138) (tgt := 149) X dX2_quiet_138 (by decide) ?_
        exact r_iret (pc := 149) X Z dX2_quiet_149 rfl
    · refine r_aload_n (pc := 86) X dX2_quiet_86 0 rfl rfl ?_
      refine r_geto (pc := 87) 12 X dX2_quiet_87 fl_X2_56 rfl (by decide) ?_
      refine r_iload (pc := 90) X dX2_quiet_90 4 rfl ?_
      refine r_callvI (pc := 92) X dX2_quiet_92 cf_X1_decode ml_X2_257 (rf rfl rfl) hy oc_12.1 hc_1 (fun b hb => m_X1_decode hb) rfl rfl (Nat.le_of_ble_eq_true rfl) (fun x4 σ5 => ?_)
      refine r_if_eq (pc := 95) (tgt := 126) X dX2_quiet_95 (by decide) ?_ ?_
      · refine r_iinc (pc := 126) (lv' := [(0, .ref _), (1, .int _), (2, .int _), (3, .int _)]) X dX2_quiet_126 4 rfl (congrArg (fun z => v4 + z) kc_1) (by decide) rfl (fun x6 => ?_)
        refine r_goto (pc := 129) (tgt := 74) X dX2_quiet_129 (by decide) ?_
        refine r_sub [1, 2, 3, 4, 0] rfl ?_
        exact ih v1 v2 v3 x6 σ5
      · refine r_aload_n (pc := 98) X dX2_quiet_98 0 rfl rfl ?_
        refine r_callvV (pc := 99) X dX2_quiet_99 cf_X2_thinkGiven ml_X2_260 (rf rfl rfl) hy oc_0.1 hc_2 (fun b hb => m_X2_thinkGiven hb) rfl rfl (Nat.le_of_ble_eq_true rfl) (fun σ8 => ?_)
        refine r_aload_n (pc := 102) X dX2_quiet_102 0 rfl rfl ?_
        refine r_iload_n (pc := 103) X dX2_quiet_103 1 rfl rfl ?_
        refine r_iload_n (pc := 104) X dX2_quiet_104 3 rfl rfl ?_
        refine r_callvI (pc := 105) X dX2_quiet_105 cf_X2_ledHoursBelow ml_X2_274 (rf rfl rfl) hy oc_0.1 hc_2 (fun b hb => m_X2_ledHoursBelow hb) rfl rfl (Nat.le_of_ble_eq_true rfl) (fun x9 σ10 => ?_)
        refine r_istore (pc := 108) (lv' := [(5, .int _), (0, .ref _), (1, .int _), (2, .int _), (3, .int _), (4, .int _)]) X dX2_quiet_108 (by decide) rfl ?_
        refine r_iload (pc := 110) X dX2_quiet_110 0 rfl ?_
        refine r_iload_n (pc := 112) X dX2_quiet_112 4 rfl rfl ?_
        refine r_icmp_ge (pc := 113) (tgt := 126) X dX2_quiet_113 (by decide) ?_ ?_
        · refine r_iinc (pc := 126) (lv' := [(5, .int _), (0, .ref _), (1, .int _), (2, .int _), (3, .int _)]) X dX2_quiet_126 5 rfl (congrArg (fun z => v4 + z) kc_1) (by decide) rfl (fun x11 => ?_)
          refine r_goto (pc := 129) (tgt := 74) X dX2_quiet_129 (by decide) ?_
          refine r_sub [2, 3, 4, 5, 0] rfl ?_
          exact ih v1 v2 v3 x11 σ10
        · refine r_iload (pc := 116) X dX2_quiet_116 0 rfl ?_
          refine r_istore_n (pc := 118) (lv' := [(3, .int _), (5, .int _), (0, .ref _), (1, .int _), (2, .int _), (4, .int _)]) X dX2_quiet_118 rfl (by decide) rfl ?_
          refine r_aload_n (pc := 119) X dX2_quiet_119 2 rfl rfl ?_
          refine r_geto (pc := 120) 12 X dX2_quiet_120 fl_X2_56 rfl (by decide) ?_
          refine r_callvV (pc := 123) X dX2_quiet_123 cf_X1_keepBest ml_X2_268 (rf rfl rfl) hy oc_12.1 hc_1 (fun b hb => m_X1_keepBest hb) rfl rfl (Nat.le_of_ble_eq_true rfl) (fun σ13 => ?_)
          refine r_iinc (pc := 126) (lv' := [(3, .int _), (5, .int _), (0, .ref _), (1, .int _), (2, .int _)]) X dX2_quiet_126 5 rfl (congrArg (fun z => v4 + z) kc_1) (by decide) rfl (fun x14 => ?_)
          refine r_goto (pc := 129) (tgt := 74) X dX2_quiet_129 (by decide) ?_
          refine r_sub [3, 4, 5, 1, 0] rfl ?_
          exact ih v1 v2 x9 x14 σ13

set_option maxRecDepth 100000 in
theorem m_X2_quiet {y : LY} {l : Launch}  {a0 : Int32} {a1 : Int32} {σ : ST} {a : (Int32 × ST)} (h : T_X2_quiet a0 a1 σ = some a) : MU y l yX2_quiet cX2_quiet 6 (some .int) (rmd 6) [.ref (ad y 0), .int a0, .int a1] σ (xI a) := by
  refine MU.of (φ := xI) h (by decide +kernel) rfl (fun E X Z hy => ?_)
  have X : CX y l E cX2_quiet 6 RX2 (rmd 6) := X
  show WW y l E 6 _ 0 [(0, .ref (ad y 0)), (1, .int a0), (2, .int a1)] [] σ (T_X2_quiet a0 a1 σ)
  unfold T_X2_quiet
  refine r_iload_n (pc := 0) X dX2_quiet_0 2 rfl rfl ?_
  refine r_iconst (pc := 1) X dX2_quiet_1 kc_m1 ?_
  refine r_icmp_lt (pc := 2) (tgt := 9) X dX2_quiet_2 (by decide) ?_ ?_
  · refine r_sub [0] rfl ?_
    exact s_X2_quiet_j9 X Z hy σ
  · refine r_iload_n (pc := 5) X dX2_quiet_5 1 rfl rfl ?_
    refine r_if_ge (pc := 6) (tgt := 16) X dX2_quiet_6 (by decide) ?_ ?_
    · refine r_iload_n (pc := 16) X dX2_quiet_16 1 rfl rfl ?_
      refine r_bipush (pc := 17) X dX2_quiet_17 kb_60 ?_
      refine r_icmp_le (pc := 19) (tgt := 29) X dX2_quiet_19 (by decide) ?_ ?_
      · refine r_aload_n (pc := 29) X dX2_quiet_29 0 rfl rfl ?_
        refine r_geto (pc := 30) 1 X dX2_quiet_30 fl_X2_12 rfl (by decide) ?_
        refine r_geti (pc := 33) X dX2_quiet_33 fl_X2_159 oc_1 rfl (fun x1 => ?_)
        refine r_iconst (pc := 36) X dX2_quiet_36 kc_4 ?_
        refine r_icmp_le (pc := 37) (tgt := 47) X dX2_quiet_37 (by decide) ?_ ?_
        · refine r_aload_n (pc := 47) X dX2_quiet_47 0 rfl rfl ?_
          refine r_geto (pc := 48) 12 X dX2_quiet_48 fl_X2_56 rfl (by decide) ?_
          refine r_aload_n (pc := 51) X dX2_quiet_51 0 rfl rfl ?_
          refine r_geto (pc := 52) 1 X dX2_quiet_52 fl_X2_12 rfl (by decide) ?_
          refine r_geti (pc := 55) X dX2_quiet_55 fl_X2_156 oc_1 rfl (fun x2 => ?_)
          refine r_aload_n (pc := 58) X dX2_quiet_58 0 rfl rfl ?_
          refine r_geto (pc := 59) 1 X dX2_quiet_59 fl_X2_12 rfl (by decide) ?_
          refine r_geti (pc := 62) X dX2_quiet_62 fl_X2_159 oc_1 rfl (fun x3 => ?_)
          refine r_callvV (pc := 65) X dX2_quiet_65 cf_X1_start ml_X2_251 (rf rfl rfl) hy oc_12.1 hc_1 (fun b hb => m_X1_start hb) rfl rfl (Nat.le_of_ble_eq_true rfl) (fun σ5 => ?_)
          refine r_ldc (pc := 68) X dX2_quiet_68 lc_X2_220 ?_
          refine r_istore_n (pc := 70) (lv' := [(3, .int _), (0, .ref _), (1, .int _), (2, .int _)]) X dX2_quiet_70 rfl (by decide) rfl ?_
          refine r_iconst (pc := 71) X dX2_quiet_71 kc_0 ?_
          refine r_istore (pc := 72) (lv' := [(4, .int _), (3, .int _), (0, .ref _), (1, .int _), (2, .int _)]) X dX2_quiet_72 (by decide) rfl ?_
          refine r_sub [2, 3, 4, 1, 0] rfl ?_
          exact s_X2_quiet_L74 X Z hy FU a0 a1 1000000 0 σ5
        · refine r_aload_n (pc := 40) X dX2_quiet_40 0 rfl rfl ?_
          refine r_bipush (pc := 41) X dX2_quiet_41 kb_m3 ?_
          refine r_callvI (pc := 43) X dX2_quiet_43 cf_X2_refuse ml_X2_60 (rf rfl rfl) hy oc_0.1 hc_2 (fun b hb => m_X2_refuse hb) rfl rfl (Nat.le_of_ble_eq_true rfl) (fun x6 σ7 => ?_)
          exact r_iret (pc := 46) X Z dX2_quiet_46 rfl
      · refine r_aload_n (pc := 22) X dX2_quiet_22 0 rfl rfl ?_
        refine r_bipush (pc := 23) X dX2_quiet_23 kb_m6 ?_
        refine r_callvI (pc := 25) X dX2_quiet_25 cf_X2_refuse ml_X2_60 (rf rfl rfl) hy oc_0.1 hc_2 (fun b hb => m_X2_refuse hb) rfl rfl (Nat.le_of_ble_eq_true rfl) (fun x8 σ9 => ?_)
        exact r_iret (pc := 28) X Z dX2_quiet_28 rfl
    · refine r_sub [0] rfl ?_
      exact s_X2_quiet_j9 X Z hy σ

set_option maxRecDepth 100000 in
theorem m_X2_stable {y : LY} {l : Launch}  {a0 : Int32} {σ : ST} {a : (Int32 × ST)} (h : T_X2_stable a0 σ = some a) : MU y l yX2_stable cX2_stable 2 (some .int) (rmd 4) [.ref (ad y 0), .int a0] σ (xI a) := by
  refine MU.of (φ := xI) h (by decide +kernel) rfl (fun E X Z hy => ?_)
  have X : CX y l E cX2_stable 2 RX2 (rmd 4) := X
  show WW y l E 2 _ 0 [(0, .ref (ad y 0)), (1, .int a0)] [] σ (T_X2_stable a0 σ)
  unfold T_X2_stable
  refine r_aload_n (pc := 0) X dX2_stable_0 0 rfl rfl ?_
  refine r_geto (pc := 1) 1 X dX2_stable_1 fl_X2_12 rfl (by decide) ?_
  refine r_iload_n (pc := 4) X dX2_stable_4 1 rfl rfl ?_
  refine r_callvp (pc := 5) X dX2_stable_5 cf_X0_hasBearer ml_X2_135 (rf rfl rfl) hy oc_1.1 (hc_0 (by decide)) (fun b hb => m_X0_hasBearer (by decide) hb) rfl rfl (Nat.le_of_ble_eq_true rfl) (fun x1 => ?_)
  refine r_if_ne (pc := 8) (tgt := 17) X dX2_stable_8 (by decide) ?_ ?_
  · refine r_aload_n (pc := 17) X dX2_stable_17 0 rfl rfl ?_
    refine r_geto (pc := 18) 1 X dX2_stable_18 fl_X2_12 rfl (by decide) ?_
    refine r_aload_n (pc := 21) X dX2_stable_21 0 rfl rfl ?_
    refine r_geto (pc := 22) 1 X dX2_stable_22 fl_X2_12 rfl (by decide) ?_
    refine r_iload_n (pc := 25) X dX2_stable_25 1 rfl rfl ?_
    refine r_callvp (pc := 26) X dX2_stable_26 cf_X0_rankOfBearer ml_X2_283 (rf rfl rfl) hy oc_1.1 (hc_0 (by decide)) (fun b hb => m_X0_rankOfBearer (by decide) hb) rfl rfl (Nat.le_of_ble_eq_true rfl) (fun x3 => ?_)
    refine r_callvp (pc := 29) X dX2_stable_29 cf_X0_bagRanked ml_X2_286 (rf rfl rfl) hy oc_1.1 (hc_0 (by decide)) (fun b hb => m_X0_bagRanked (by decide) hb) rfl rfl (Nat.le_of_ble_eq_true rfl) (fun x5 => ?_)
    exact r_iret (pc := 32) X Z dX2_stable_32 rfl
  · refine r_aload_n (pc := 11) X dX2_stable_11 0 rfl rfl ?_
    refine r_iconst (pc := 12) X dX2_stable_12 kc_m1 ?_
    refine r_callvI (pc := 13) X dX2_stable_13 cf_X2_refuse ml_X2_60 (rf rfl rfl) hy oc_0.1 hc_2 (fun b hb => m_X2_refuse hb) rfl rfl (Nat.le_of_ble_eq_true rfl) (fun x7 σ8 => ?_)
    exact r_iret (pc := 16) X Z dX2_stable_16 rfl

set_option maxRecDepth 100000 in
theorem s_X2_unled_L4 {y : LY} {l : Launch} {E : ET} (X : CX y l E cX2_unled 5 RX2 (rmd 4)) (Z : ZX E (some .int)) (hy : y.1 ≤ (eS E).heap.size)  {σ : ST}   (n : Nat) : ∀ (v1 : Int32) (v2 : Int32), WW y l E 5 (fun a => QM y E (xp σ a)) 4 [(0, .ref (ad y 0)), (1, .int v1), (2, .int v2)] [] σ (T_X2_unled_L4 σ n v1 v2) := by
  induction n with
  | zero => intros; exact r_none rfl
  | succ n ih =>
    intro v1 v2
    unfold T_X2_unled_L4
    refine r_iload_n (pc := 4) X dX2_unled_4 2 rfl rfl ?_
    refine r_aload_n (pc := 5) X dX2_unled_5 0 rfl rfl ?_
    refine r_geto (pc := 6) 1 X dX2_unled_6 fl_X2_12 rfl (by decide) ?_
    refine r_geti (pc := 9) X dX2_unled_9 fl_X2_159 oc_1 rfl (fun x1 => ?_)
    refine r_icmp_ge (pc := 12) (tgt := 73) X dX2_unled_12 (by decide) ?_ ?_
    · refine r_iload_n (pc := 73) X dX2_unled_73 1 rfl rfl ?_
      exact r_iret (pc := 74) X Z dX2_unled_74 rfl
    · refine r_aload_n (pc := 15) X dX2_unled_15 0 rfl rfl ?_
      refine r_geto (pc := 16) 1 X dX2_unled_16 fl_X2_12 rfl (by decide) ?_
      refine r_iload_n (pc := 19) X dX2_unled_19 2 rfl rfl ?_
      refine r_callvp (pc := 20) X dX2_unled_20 cf_X0_bearerRanked ml_X2_289 (rf rfl rfl) hy oc_1.1 (hc_0 (by decide)) (fun b hb => m_X0_bearerRanked (by decide) hb) rfl rfl (Nat.le_of_ble_eq_true rfl) (fun x2 => ?_)
      refine r_istore_n (pc := 23) (lv' := [(3, .int _), (0, .ref _), (1, .int _), (2, .int _)]) X dX2_unled_23 rfl (by decide) rfl ?_
      refine r_aload_n (pc := 24) X dX2_unled_24 1 rfl rfl ?_
      refine r_geto (pc := 25) 1 X dX2_unled_25 fl_X2_12 rfl (by decide) ?_
      refine r_iload_n (pc := 28) X dX2_unled_28 2 rfl rfl ?_
      refine r_callvp (pc := 29) X dX2_unled_29 cf_X0_bagRanked ml_X2_286 (rf rfl rfl) hy oc_1.1 (hc_0 (by decide)) (fun b hb => m_X0_bagRanked (by decide) hb) rfl rfl (Nat.le_of_ble_eq_true rfl) (fun x4 => ?_)
      refine r_istore (pc := 32) (lv' := [(4, .int _), (3, .int _), (0, .ref _), (1, .int _), (2, .int _)]) X dX2_unled_32 (by decide) rfl ?_
      refine r_iload_n (pc := 34) X dX2_unled_34 1 rfl rfl ?_
      refine r_if_lt (pc := 35) (tgt := 67) X dX2_unled_35 (by decide) ?_ ?_
      · refine r_iinc (pc := 67) (lv' := [(4, .int _), (3, .int _), (0, .ref _), (1, .int _)]) X dX2_unled_67 4 rfl (congrArg (fun z => v2 + z) kc_1) (by decide) rfl (fun x6 => ?_)
        refine r_goto (pc := 70) (tgt := 4) X dX2_unled_70 (by decide) ?_
        refine r_sub [3, 4, 0] rfl ?_
        exact ih v1 x6
      · refine r_iload (pc := 38) X dX2_unled_38 0 rfl ?_
        refine r_if_lt (pc := 40) (tgt := 67) X dX2_unled_40 (by decide) ?_ ?_
        · refine r_iinc (pc := 67) (lv' := [(4, .int _), (3, .int _), (0, .ref _), (1, .int _)]) X dX2_unled_67 4 rfl (congrArg (fun z => v2 + z) kc_1) (by decide) rfl (fun x7 => ?_)
          refine r_goto (pc := 70) (tgt := 4) X dX2_unled_70 (by decide) ?_
          refine r_sub [3, 4, 0] rfl ?_
          exact ih v1 x7
        · refine r_aload_n (pc := 43) X dX2_unled_43 2 rfl rfl ?_
          refine r_geto (pc := 44) 1 X dX2_unled_44 fl_X2_12 rfl (by decide) ?_
          refine r_iload (pc := 47) X dX2_unled_47 0 rfl ?_
          refine r_callvp (pc := 49) X dX2_unled_49 cf_X0_plainPullOf ml_X2_292 (rf rfl rfl) hy oc_1.1 (hc_0 (by decide)) (fun b hb => m_X0_plainPullOf (by decide) hb) rfl rfl (Nat.le_of_ble_eq_true rfl) (fun x8 => ?_)
          refine r_aload_n (pc := 52) X dX2_unled_52 2 rfl rfl ?_
          refine r_geto (pc := 53) 1 X dX2_unled_53 fl_X2_12 rfl (by decide) ?_
          refine r_geta (pc := 56) X dX2_unled_56 fl_X2_138 oc_1 (by decide) ?_
          refine r_iload_n (pc := 59) X dX2_unled_59 1 rfl rfl ?_
          refine r_iald (pc := 60) X dX2_unled_60 ar_1_8 (fun x10 => ?_)
          refine r_icmp_gt (pc := 61) (tgt := 67) X dX2_unled_61 (by decide) ?_ ?_
          · refine r_iinc (pc := 67) (lv' := [(4, .int _), (3, .int _), (0, .ref _), (1, .int _)]) X dX2_unled_67 4 rfl (congrArg (fun z => v2 + z) kc_1) (by decide) rfl (fun x11 => ?_)
            refine r_goto (pc := 70) (tgt := 4) X dX2_unled_70 (by decide) ?_
            refine r_sub [3, 4, 0] rfl ?_
            exact ih v1 x11
          · refine r_iinc (pc := 64) (lv' := [(4, .int _), (3, .int _), (0, .ref _), (2, .int _)]) X dX2_unled_64 3 rfl (congrArg (fun z => v1 + z) kc_1) (by decide) rfl (fun x12 => ?_)
            refine r_iinc (pc := 67) (lv' := [(1, .int _), (4, .int _), (3, .int _), (0, .ref _)]) X dX2_unled_67 4 rfl (congrArg (fun z => v2 + z) kc_1) (by decide) rfl (fun x13 => ?_)
            refine r_goto (pc := 70) (tgt := 4) X dX2_unled_70 (by decide) ?_
            refine r_sub [4, 1, 0] rfl ?_
            exact ih x12 x13

set_option maxRecDepth 100000 in
theorem m_X2_unled {y : LY} {l : Launch}   {σ : ST} {a : Int32} (h : T_X2_unled σ = some a) : MU y l yX2_unled cX2_unled 5 (some .int) (rmd 4) [.ref (ad y 0)] σ (xp σ a) := by
  refine MU.of (φ := xp σ) h (by decide +kernel) rfl (fun E X Z hy => ?_)
  have X : CX y l E cX2_unled 5 RX2 (rmd 4) := X
  show WW y l E 5 _ 0 [(0, .ref (ad y 0))] [] σ (T_X2_unled σ)
  unfold T_X2_unled
  refine r_iconst (pc := 0) X dX2_unled_0 kc_0 ?_
  refine r_istore_n (pc := 1) (lv' := [(1, .int _), (0, .ref _)]) X dX2_unled_1 rfl (by decide) rfl ?_
  refine r_iconst (pc := 2) X dX2_unled_2 kc_0 ?_
  refine r_istore_n (pc := 3) (lv' := [(2, .int _), (1, .int _), (0, .ref _)]) X dX2_unled_3 rfl (by decide) rfl ?_
  refine r_sub [2, 1, 0] rfl ?_
  exact s_X2_unled_L4 X Z hy FU 0 0

set_option maxRecDepth 100000 in
theorem s_X2_row_j26 {y : LY} {l : Launch} {E : ET} (X : CX y l E cX2_row 2 RX2 (rmd 1)) (Z : ZX E (some .int)) (hy : y.1 ≤ (eS E).heap.size)     (σ : ST) : WW y l E 2 (fun a => QM y E (xI a)) 26 [(0, .ref (ad y 0))] [] σ (T_X2_row_j26   σ) := by
  unfold T_X2_row_j26
  refine r_aload_n (pc := 26) X dX2_row_26 0 rfl rfl ?_
  refine r_bipush (pc := 27) X dX2_row_27 kb_m6 ?_
  refine r_callvI (pc := 29) X dX2_row_29 cf_X2_refuse ml_X2_60 (rf rfl rfl) hy oc_0.1 hc_2 (fun b hb => m_X2_refuse hb) rfl rfl (Nat.le_of_ble_eq_true rfl) (fun x1 σ2 => ?_)
  exact r_iret (pc := 32) X Z dX2_row_32 rfl

set_option maxRecDepth 100000 in
theorem m_X2_row {y : LY} {l : Launch}  {a0 : Int32} {σ : ST} {a : (Int32 × ST)} (h : T_X2_row a0 σ = some a) : MU y l yX2_row cX2_row 2 (some .int) (rmd 1) [.ref (ad y 0), .int a0] σ (xI a) := by
  refine MU.of (φ := xI) h (by decide +kernel) rfl (fun E X Z hy => ?_)
  have X : CX y l E cX2_row 2 RX2 (rmd 1) := X
  show WW y l E 2 _ 0 [(0, .ref (ad y 0)), (1, .int a0)] [] σ (T_X2_row a0 σ)
  unfold T_X2_row
  refine r_iload_n (pc := 0) X dX2_row_0 1 rfl rfl ?_
  refine r_if_ge (pc := 1) (tgt := 11) X dX2_row_1 (by decide) ?_ ?_
  · refine r_iload_n (pc := 11) X dX2_row_11 1 rfl rfl ?_
    refine r_bipush (pc := 12) X dX2_row_12 kb_99 ?_
    refine r_icmp_gt (pc := 14) (tgt := 26) X dX2_row_14 (by decide) ?_ ?_
    · refine r_sub [0] rfl ?_
      exact s_X2_row_j26 X Z hy σ
    · refine r_aload_n (pc := 17) X dX2_row_17 0 rfl rfl ?_
      refine r_geti (pc := 18) X dX2_row_18 fl_X2_44 oc_0 rfl (fun x1 => ?_)
      refine r_bipush (pc := 21) X dX2_row_21 kb_12 ?_
      refine r_icmp_lt (pc := 23) (tgt := 33) X dX2_row_23 (by decide) ?_ ?_
      · refine r_aload_n (pc := 33) X dX2_row_33 0 rfl rfl ?_
        refine r_geta (pc := 34) X dX2_row_34 fl_X2_41 oc_0 (by decide) ?_
        refine r_aload_n (pc := 37) X dX2_row_37 0 rfl rfl ?_
        refine r_geti (pc := 38) X dX2_row_38 fl_X2_44 oc_0 rfl (fun x2 => ?_)
        refine r_iload_n (pc := 41) X dX2_row_41 1 rfl rfl ?_
        refine r_iast (pc := 42) X dX2_row_42 ar_0_8 (fun σ3 => ?_)
        refine r_aload_n (pc := 43) X dX2_row_43 0 rfl rfl ?_
        refine r_dup (pc := 44) X dX2_row_44 rfl ?_
        refine r_geti (pc := 45) X dX2_row_45 fl_X2_44 oc_0 rfl (fun x4 => ?_)
        refine r_iconst (pc := 48) X dX2_row_48 kc_1 ?_
        refine r_iadd (pc := 49) X dX2_row_49 ?_
        refine r_puti (pc := 50) X dX2_row_50 fl_X2_44 fw_2_9 oc_0 rfl (fun σ5 => ?_)
        refine r_aload_n (pc := 53) X dX2_row_53 0 rfl rfl ?_
        refine r_geti (pc := 54) X dX2_row_54 fl_X2_44 oc_0 rfl (fun x6 => ?_)
        exact r_iret (pc := 57) X Z dX2_row_57 rfl
      · refine r_sub [0] rfl ?_
        exact s_X2_row_j26 X Z hy σ
  · refine r_aload_n (pc := 4) X dX2_row_4 0 rfl rfl ?_
    refine r_bipush (pc := 5) X dX2_row_5 kb_m4 ?_
    refine r_callvI (pc := 7) X dX2_row_7 cf_X2_refuse ml_X2_60 (rf rfl rfl) hy oc_0.1 hc_2 (fun b hb => m_X2_refuse hb) rfl rfl (Nat.le_of_ble_eq_true rfl) (fun x7 σ8 => ?_)
    exact r_iret (pc := 10) X Z dX2_row_10 rfl

set_option maxRecDepth 100000 in
theorem s_X2_firstUntrue_L2 {y : LY} {l : Launch} {E : ET} (X : CX y l E cX2_firstUntrue 3 RX2 (rmd 5)) (Z : ZX E (some .int)) (hy : y.1 ≤ (eS E).heap.size)     (n : Nat) : ∀ (v1 : Int32) (v2 : Int32) (σ : ST), WW y l E 3 (fun a => QM y E (xI a)) 2 [(0, .ref (ad y 0)), (1, .int v1), (2, .int v2)] [] σ (T_X2_firstUntrue_L2  n v1 v2 σ) := by
  induction n with
  | zero => intros; exact r_none rfl
  | succ n ih =>
    intro v1 v2 σ
    unfold T_X2_firstUntrue_L2
    refine r_iload_n (pc := 2) X dX2_firstUntrue_2 2 rfl rfl ?_
    refine r_aload_n (pc := 3) X dX2_firstUntrue_3 0 rfl rfl ?_
    refine r_geti (pc := 4) X dX2_firstUntrue_4 fl_X2_44 oc_0 rfl (fun x1 => ?_)
    refine r_icmp_ge (pc := 7) (tgt := 44) X dX2_firstUntrue_7 (by decide) ?_ ?_
    · refine r_bipush (pc := 44) X dX2_firstUntrue_44 kb_m9 ?_
      exact r_iret (pc := 46) X Z dX2_firstUntrue_46 rfl
    · refine r_aload_n (pc := 10) X dX2_firstUntrue_10 0 rfl rfl ?_
      refine r_geta (pc := 11) X dX2_firstUntrue_11 fl_X2_41 oc_0 (by decide) ?_
      refine r_iload_n (pc := 14) X dX2_firstUntrue_14 2 rfl rfl ?_
      refine r_iald (pc := 15) X dX2_firstUntrue_15 ar_0_8 (fun x2 => ?_)
      refine r_aload_n (pc := 16) X dX2_firstUntrue_16 0 rfl rfl ?_
      refine r_geto (pc := 17) 2 X dX2_firstUntrue_17 fl_X2_16 rfl (by decide) ?_
      refine r_geta (pc := 20) X dX2_firstUntrue_20 fl_X2_144 oc_2 (by decide) ?_
      refine r_iload_n (pc := 23) X dX2_firstUntrue_23 1 rfl rfl ?_
      refine r_iald (pc := 24) X dX2_firstUntrue_24 ar_2_10 (fun x3 => ?_)
      refine r_icmp_eq (pc := 25) (tgt := 30) X dX2_firstUntrue_25 (by decide) ?_ ?_
      · refine r_aload_n (pc := 30) X dX2_firstUntrue_30 0 rfl rfl ?_
        refine r_geto (pc := 31) 2 X dX2_firstUntrue_31 fl_X2_16 rfl (by decide) ?_
        refine r_iconst (pc := 34) X dX2_firstUntrue_34 kc_1 ?_
        refine r_callvV (pc := 35) X dX2_firstUntrue_35 cf_X0_goHours ml_X2_107 (rf rfl rfl) hy oc_2.1 (hc_0 (by decide)) (fun b hb => m_X0_goHours (by decide) hb) rfl rfl (Nat.le_of_ble_eq_true rfl) (fun σ5 => ?_)
        refine r_iinc (pc := 38) (lv' := [(0, .ref _), (1, .int _)]) X dX2_firstUntrue_38 2 rfl (congrArg (fun z => v2 + z) kc_1) (by decide) rfl (fun x6 => ?_)
        refine r_goto (pc := 41) (tgt := 2) X dX2_firstUntrue_41 (by decide) ?_
        refine r_sub [1, 2, 0] rfl ?_
        exact ih v1 x6 σ5
      · refine r_iload_n (pc := 28) X dX2_firstUntrue_28 2 rfl rfl ?_
        exact r_iret (pc := 29) X Z dX2_firstUntrue_29 rfl

set_option maxRecDepth 100000 in
theorem m_X2_firstUntrue {y : LY} {l : Launch}  {a0 : Int32} {σ : ST} {a : (Int32 × ST)} (h : T_X2_firstUntrue a0 σ = some a) : MU y l yX2_firstUntrue cX2_firstUntrue 3 (some .int) (rmd 5) [.ref (ad y 0), .int a0] σ (xI a) := by
  refine MU.of (φ := xI) h (by decide +kernel) rfl (fun E X Z hy => ?_)
  have X : CX y l E cX2_firstUntrue 3 RX2 (rmd 5) := X
  show WW y l E 3 _ 0 [(0, .ref (ad y 0)), (1, .int a0)] [] σ (T_X2_firstUntrue a0 σ)
  unfold T_X2_firstUntrue
  refine r_iconst (pc := 0) X dX2_firstUntrue_0 kc_0 ?_
  refine r_istore_n (pc := 1) (lv' := [(2, .int _), (0, .ref _), (1, .int _)]) X dX2_firstUntrue_1 rfl (by decide) rfl ?_
  refine r_sub [1, 2, 0] rfl ?_
  exact s_X2_firstUntrue_L2 X Z hy FU a0 0 σ

set_option maxRecDepth 100000 in
theorem m_X2_judge {y : LY} {l : Launch}  {a0 : Int32} {σ : ST} {a : (Int32 × ST)} (h : T_X2_judge a0 σ = some a) : MU y l yX2_judge cX2_judge 3 (some .int) (rmd 6) [.ref (ad y 0), .int a0] σ (xI a) := by
  refine MU.of (φ := xI) h (by decide +kernel) rfl (fun E X Z hy => ?_)
  have X : CX y l E cX2_judge 3 RX2 (rmd 6) := X
  show WW y l E 3 _ 0 [(0, .ref (ad y 0)), (1, .int a0)] [] σ (T_X2_judge a0 σ)
  unfold T_X2_judge
  refine r_aload_n (pc := 0) X dX2_judge_0 0 rfl rfl ?_
  refine r_geto (pc := 1) 1 X dX2_judge_1 fl_X2_12 rfl (by decide) ?_
  refine r_iload_n (pc := 4) X dX2_judge_4 1 rfl rfl ?_
  refine r_callvp (pc := 5) X dX2_judge_5 cf_X0_hasBearer ml_X2_135 (rf rfl rfl) hy oc_1.1 (hc_0 (by decide)) (fun b hb => m_X0_hasBearer (by decide) hb) rfl rfl (Nat.le_of_ble_eq_true rfl) (fun x1 => ?_)
  refine r_if_ne (pc := 8) (tgt := 17) X dX2_judge_8 (by decide) ?_ ?_
  · refine r_aload_n (pc := 17) X dX2_judge_17 0 rfl rfl ?_
    refine r_callvV (pc := 18) X dX2_judge_18 cf_X2_think ml_X2_67 (rf rfl rfl) hy oc_0.1 hc_2 (fun b hb => m_X2_think hb) rfl rfl (Nat.le_of_ble_eq_true rfl) (fun σ4 => ?_)
    refine r_aload_n (pc := 21) X dX2_judge_21 0 rfl rfl ?_
    refine r_iload_n (pc := 22) X dX2_judge_22 1 rfl rfl ?_
    refine r_callvI (pc := 23) X dX2_judge_23 cf_X2_firstUntrue ml_X2_295 (rf rfl rfl) hy oc_0.1 hc_2 (fun b hb => m_X2_firstUntrue hb) rfl rfl (Nat.le_of_ble_eq_true rfl) (fun x5 σ6 => ?_)
    refine r_istore_n (pc := 26) (lv' := [(2, .int _), (0, .ref _), (1, .int _)]) X dX2_judge_26 rfl (by decide) rfl ?_
    refine r_aload_n (pc := 27) X dX2_judge_27 1 rfl rfl ?_
    refine r_iconst (pc := 28) X dX2_judge_28 kc_0 ?_
    refine r_puti (pc := 29) X dX2_judge_29 fl_X2_44 fw_2_9 oc_0 rfl (fun σ7 => ?_)
    refine r_iload_n (pc := 32) X dX2_judge_32 0 rfl rfl ?_
    exact r_iret (pc := 33) X Z dX2_judge_33 rfl
  · refine r_aload_n (pc := 11) X dX2_judge_11 0 rfl rfl ?_
    refine r_iconst (pc := 12) X dX2_judge_12 kc_m1 ?_
    refine r_callvI (pc := 13) X dX2_judge_13 cf_X2_refuse ml_X2_60 (rf rfl rfl) hy oc_0.1 hc_2 (fun b hb => m_X2_refuse hb) rfl rfl (Nat.le_of_ble_eq_true rfl) (fun x8 σ9 => ?_)
    exact r_iret (pc := 16) X Z dX2_judge_16 rfl

set_option maxRecDepth 100000 in
theorem m_X2_clear {y : LY} {l : Launch}   {σ : ST} {a : (Int32 × ST)} (h : T_X2_clear σ = some a) : MU y l yX2_clear cX2_clear 2 (some .int) (rmd 0) [.ref (ad y 0)] σ (xI a) := by
  refine MU.of (φ := xI) h (by decide +kernel) rfl (fun E X Z hy => ?_)
  have X : CX y l E cX2_clear 2 RX2 (rmd 0) := X
  show WW y l E 2 _ 0 [(0, .ref (ad y 0))] [] σ (T_X2_clear σ)
  unfold T_X2_clear
  refine r_aload_n (pc := 0) X dX2_clear_0 0 rfl rfl ?_
  refine r_geti (pc := 1) X dX2_clear_1 fl_X2_44 oc_0 rfl (fun x1 => ?_)
  refine r_istore_n (pc := 4) (lv' := [(1, .int _), (0, .ref _)]) X dX2_clear_4 rfl (by decide) rfl ?_
  refine r_aload_n (pc := 5) X dX2_clear_5 1 rfl rfl ?_
  refine r_iconst (pc := 6) X dX2_clear_6 kc_0 ?_
  refine r_puti (pc := 7) X dX2_clear_7 fl_X2_44 fw_2_9 oc_0 rfl (fun σ2 => ?_)
  refine r_iload_n (pc := 10) X dX2_clear_10 0 rfl rfl ?_
  exact r_iret (pc := 11) X Z dX2_clear_11 rfl

set_option maxRecDepth 100000 in
theorem s_X2_whose_j26 {y : LY} {l : Launch} {E : ET} (X : CX y l E cX2_whose 7 RX2 (rmd 6)) (Z : ZX E (some .int)) (hy : y.1 ≤ (eS E).heap.size)     (σ : ST) : WW y l E 7 (fun a => QM y E (xI a)) 26 [(0, .ref (ad y 0))] [] σ (T_X2_whose_j26   σ) := by
  unfold T_X2_whose_j26
  refine r_aload_n (pc := 26) X dX2_whose_26 0 rfl rfl ?_
  refine r_bipush (pc := 27) X dX2_whose_27 kb_m2 ?_
  refine r_callvI (pc := 29) X dX2_whose_29 cf_X2_refuse ml_X2_60 (rf rfl rfl) hy oc_0.1 hc_2 (fun b hb => m_X2_refuse hb) rfl rfl (Nat.le_of_ble_eq_true rfl) (fun x1 σ2 => ?_)
  exact r_iret (pc := 32) X Z dX2_whose_32 rfl

set_option maxRecDepth 100000 in
theorem s_X2_whose_j153 {y : LY} {l : Launch} {E : ET} (X : CX y l E cX2_whose 7 RX2 (rmd 6)) (Z : ZX E (some .int)) (hy : y.1 ≤ (eS E).heap.size)   {K75 : Int32 → Int32 → Int32 → Int32 → Int32 → Int32 → ST → Option (Int32 × ST)} (hK75 : ∀ (v1 : Int32) (v2 : Int32) (v3 : Int32) (v4 : Int32) (v5 : Int32) (v6 : Int32) (σ : ST), WW y l E 7 (fun a => QM y E (xI a)) 75 [(0, .ref (ad y 0)), (1, .int v1), (2, .int v2), (3, .int v3), (4, .int v4), (5, .int v5), (6, .int v6)] [] σ (K75 v1 v2 v3 v4 v5 v6 σ)) (v1 : Int32) (v2 : Int32) (v3 : Int32) (v4 : Int32) (v5 : Int32) (v6 : Int32) (σ : ST) : WW y l E 7 (fun a => QM y E (xI a)) 153 [(0, .ref (ad y 0)), (1, .int v1), (2, .int v2), (3, .int v3), (4, .int v4), (5, .int v5), (6, .int v6)] [] σ (T_X2_whose_j153 K75  v1 v2 v3 v4 v5 v6 σ) := by
  unfold T_X2_whose_j153
  refine r_aload_n (pc := 153) X dX2_whose_153 0 rfl rfl ?_
  refine r_iload_n (pc := 154) X dX2_whose_154 1 rfl rfl ?_
  refine r_callvI (pc := 155) X dX2_whose_155 cf_X2_firstUntrue ml_X2_295 (rf rfl rfl) hy oc_0.1 hc_2 (fun b hb => m_X2_firstUntrue hb) rfl rfl (Nat.le_of_ble_eq_true rfl) (fun x1 σ2 => ?_)
  refine r_if_ge (pc := 158) (tgt := 170) X dX2_whose_158 (by decide) ?_ ?_
  · refine r_iinc (pc := 170) (lv' := [(0, .ref _), (1, .int _), (2, .int _), (3, .int _), (4, .int _), (5, .int _)]) X dX2_whose_170 6 rfl (congrArg (fun z => v6 + z) kc_1) (by decide) rfl (fun x3 => ?_)
    refine r_goto (pc := 173) (tgt := 75) X dX2_whose_173 (by decide) ?_
    refine r_sub [1, 2, 3, 4, 5, 6, 0] rfl ?_
    exact hK75 v1 v2 v3 v4 v5 x3 σ2
  · refine r_iload (pc := 161) X dX2_whose_161 5 rfl ?_
    refine r_iconst (pc := 163) X dX2_whose_163 kc_1 ?_
    refine r_iload (pc := 164) X dX2_whose_164 6 rfl ?_
    refine r_ishl (pc := 166) X dX2_whose_166 rfl ?_
    refine r_ior (pc := 167) X dX2_whose_167 ?_
    refine r_vl (fun x4 => ?_)
    refine r_istore (pc := 168) (lv' := [(5, .int _), (0, .ref _), (1, .int _), (2, .int _), (3, .int _), (4, .int _), (6, .int _)]) X dX2_whose_168 (by decide) rfl ?_
    refine r_iinc (pc := 170) (lv' := [(5, .int _), (0, .ref _), (1, .int _), (2, .int _), (3, .int _), (4, .int _)]) X dX2_whose_170 6 rfl (congrArg (fun z => v6 + z) kc_1) (by decide) rfl (fun x5 => ?_)
    refine r_goto (pc := 173) (tgt := 75) X dX2_whose_173 (by decide) ?_
    refine r_sub [2, 3, 4, 5, 6, 1, 0] rfl ?_
    exact hK75 v1 v2 v3 v4 x4 x5 σ2

set_option maxRecDepth 100000 in
theorem s_X2_whose_L75 {y : LY} {l : Launch} {E : ET} (X : CX y l E cX2_whose 7 RX2 (rmd 6)) (Z : ZX E (some .int)) (hy : y.1 ≤ (eS E).heap.size)     (n : Nat) : ∀ (v1 : Int32) (v2 : Int32) (v3 : Int32) (v4 : Int32) (v5 : Int32) (v6 : Int32) (σ : ST), WW y l E 7 (fun a => QM y E (xI a)) 75 [(0, .ref (ad y 0)), (1, .int v1), (2, .int v2), (3, .int v3), (4, .int v4), (5, .int v5), (6, .int v6)] [] σ (T_X2_whose_L75  n v1 v2 v3 v4 v5 v6 σ) := by
  induction n with
  | zero => intros; exact r_none rfl
  | succ n ih =>
    intro v1 v2 v3 v4 v5 v6 σ
    unfold T_X2_whose_L75
    refine r_iload (pc := 75) X dX2_whose_75 6 rfl ?_
    refine r_iload (pc := 77) X dX2_whose_77 4 rfl ?_
    refine r_icmp_ge (pc := 79) (tgt := 176) X dX2_whose_79 (by decide) ?_ ?_
    · refine r_iload (pc := 176) X dX2_whose_176 5 rfl ?_
      exact r_iret (pc := 178) X Z dX2_whose_178 rfl
    · refine r_aload_n (pc := 82) X dX2_whose_82 0 rfl rfl ?_
      refine r_callvV (pc := 83) X dX2_whose_83 cf_X2_think ml_X2_67 (rf rfl rfl) hy oc_0.1 hc_2 (fun b hb => m_X2_think hb) rfl rfl (Nat.le_of_ble_eq_true rfl) (fun σ2 => ?_)
      refine r_iload_n (pc := 86) X dX2_whose_86 2 rfl rfl ?_
      refine r_if_ne (pc := 87) (tgt := 104) X dX2_whose_87 (by decide) ?_ ?_
      · refine r_iload_n (pc := 104) X dX2_whose_104 2 rfl rfl ?_
        refine r_iconst (pc := 105) X dX2_whose_105 kc_1 ?_
        refine r_icmp_ne (pc := 106) (tgt := 123) X dX2_whose_106 (by decide) ?_ ?_
        · refine r_iload_n (pc := 123) X dX2_whose_123 2 rfl rfl ?_
          refine r_iconst (pc := 124) X dX2_whose_124 kc_2 ?_
          refine r_icmp_ne (pc := 125) (tgt := 142) X dX2_whose_125 (by decide) ?_ ?_
          · refine r_aload_n (pc := 142) X dX2_whose_142 0 rfl rfl ?_
            refine r_geto (pc := 143) 2 X dX2_whose_143 fl_X2_16 rfl (by decide) ?_
            refine r_geta (pc := 146) X dX2_whose_146 fl_X2_138 oc_2 (by decide) ?_
            refine r_iload_n (pc := 149) X dX2_whose_149 1 rfl rfl ?_
            refine r_iload (pc := 150) X dX2_whose_150 6 rfl ?_
            refine r_iast (pc := 152) X dX2_whose_152 ar_2_8 (fun σ3 => ?_)
            exact s_X2_whose_j153 X Z hy (fun v1 v2 v3 v4 v5 v6 s => ih v1 v2 v3 v4 v5 v6 s) v1 v2 v3 v4 v5 v6 σ3
          · refine r_aload_n (pc := 128) X dX2_whose_128 0 rfl rfl ?_
            refine r_geto (pc := 129) 2 X dX2_whose_129 fl_X2_16 rfl (by decide) ?_
            refine r_geta (pc := 132) X dX2_whose_132 fl_X2_120 oc_2 (by decide) ?_
            refine r_iload_n (pc := 135) X dX2_whose_135 3 rfl rfl ?_
            refine r_iload (pc := 136) X dX2_whose_136 6 rfl ?_
            refine r_iast (pc := 138) X dX2_whose_138 ar_2_3 (fun σ4 => ?_)
            refine r_goto (pc := 139) (tgt := 153) X dX2_whose_139 (by decide) ?_
            exact s_X2_whose_j153 X Z hy (fun v1 v2 v3 v4 v5 v6 s => ih v1 v2 v3 v4 v5 v6 s) v1 v2 v3 v4 v5 v6 σ4
        · refine r_aload_n (pc := 109) X dX2_whose_109 0 rfl rfl ?_
          refine r_geto (pc := 110) 2 X dX2_whose_110 fl_X2_16 rfl (by decide) ?_
          refine r_geta (pc := 113) X dX2_whose_113 fl_X2_117 oc_2 (by decide) ?_
          refine r_iload_n (pc := 116) X dX2_whose_116 3 rfl rfl ?_
          refine r_iload (pc := 117) X dX2_whose_117 6 rfl ?_
          refine r_iast (pc := 119) X dX2_whose_119 ar_2_2 (fun σ5 => ?_)
          refine r_goto (pc := 120) (tgt := 153) X dX2_whose_120 (by decide) ?_
          exact s_X2_whose_j153 X Z hy (fun v1 v2 v3 v4 v5 v6 s => ih v1 v2 v3 v4 v5 v6 s) v1 v2 v3 v4 v5 v6 σ5
      · refine r_aload_n (pc := 90) X dX2_whose_90 0 rfl rfl ?_
        refine r_geto (pc := 91) 2 X dX2_whose_91 fl_X2_16 rfl (by decide) ?_
        refine r_geta (pc := 94) X dX2_whose_94 fl_X2_114 oc_2 (by decide) ?_
        refine r_iload_n (pc := 97) X dX2_whose_97 3 rfl rfl ?_
        refine r_iload (pc := 98) X dX2_whose_98 6 rfl ?_
        refine r_iast (pc := 100) X dX2_whose_100 ar_2_1 (fun σ6 => ?_)
        refine r_goto (pc := 101) (tgt := 153) X dX2_whose_101 (by decide) ?_
        exact s_X2_whose_j153 X Z hy (fun v1 v2 v3 v4 v5 v6 s => ih v1 v2 v3 v4 v5 v6 s) v1 v2 v3 v4 v5 v6 σ6

set_option maxRecDepth 100000 in
theorem m_X2_whose {y : LY} {l : Launch}  {a0 : Int32} {a1 : Int32} {σ : ST} {a : (Int32 × ST)} (h : T_X2_whose a0 a1 σ = some a) : MU y l yX2_whose cX2_whose 7 (some .int) (rmd 6) [.ref (ad y 0), .int a0, .int a1] σ (xI a) := by
  refine MU.of (φ := xI) h (by decide +kernel) rfl (fun E X Z hy => ?_)
  have X : CX y l E cX2_whose 7 RX2 (rmd 6) := X
  show WW y l E 7 _ 0 [(0, .ref (ad y 0)), (1, .int a0), (2, .int a1)] [] σ (T_X2_whose a0 a1 σ)
  unfold T_X2_whose
  refine r_aload_n (pc := 0) X dX2_whose_0 0 rfl rfl ?_
  refine r_geto (pc := 1) 1 X dX2_whose_1 fl_X2_12 rfl (by decide) ?_
  refine r_iload_n (pc := 4) X dX2_whose_4 1 rfl rfl ?_
  refine r_callvp (pc := 5) X dX2_whose_5 cf_X0_hasBearer ml_X2_135 (rf rfl rfl) hy oc_1.1 (hc_0 (by decide)) (fun b hb => m_X0_hasBearer (by decide) hb) rfl rfl (Nat.le_of_ble_eq_true rfl) (fun x1 => ?_)
  refine r_if_ne (pc := 8) (tgt := 17) X dX2_whose_8 (by decide) ?_ ?_
  · refine r_iload_n (pc := 17) X dX2_whose_17 2 rfl rfl ?_
    refine r_if_lt (pc := 18) (tgt := 26) X dX2_whose_18 (by decide) ?_ ?_
    · refine r_sub [0] rfl ?_
      exact s_X2_whose_j26 X Z hy σ
    · refine r_iload_n (pc := 21) X dX2_whose_21 2 rfl rfl ?_
      refine r_iconst (pc := 22) X dX2_whose_22 kc_3 ?_
      refine r_icmp_le (pc := 23) (tgt := 33) X dX2_whose_23 (by decide) ?_ ?_
      · refine r_aload_n (pc := 33) X dX2_whose_33 0 rfl rfl ?_
        refine r_geto (pc := 34) 1 X dX2_whose_34 fl_X2_12 rfl (by decide) ?_
        refine r_geta (pc := 37) X dX2_whose_37 fl_X2_147 oc_1 (by decide) ?_
        refine r_iload_n (pc := 40) X dX2_whose_40 1 rfl rfl ?_
        refine r_iald (pc := 41) X dX2_whose_41 ar_1_11 (fun x3 => ?_)
        refine r_istore_n (pc := 42) (lv' := [(3, .int _), (0, .ref _), (1, .int _), (2, .int _)]) X dX2_whose_42 rfl (by decide) rfl ?_
        refine r_aload_n (pc := 43) X dX2_whose_43 1 rfl rfl ?_
        refine r_geto (pc := 44) 1 X dX2_whose_44 fl_X2_12 rfl (by decide) ?_
        refine r_iload_n (pc := 47) X dX2_whose_47 0 rfl rfl ?_
        refine r_callvp (pc := 48) X dX2_whose_48 cf_X0_hasBag ml_X2_111 (rf rfl rfl) hy oc_1.1 (hc_0 (by decide)) (fun b hb => m_X0_hasBag (by decide) hb) rfl rfl (Nat.le_of_ble_eq_true rfl) (fun x4 => ?_)
        refine r_if_ne (pc := 51) (tgt := 56) X dX2_whose_51 (by decide) ?_ ?_
        · refine r_iload_n (pc := 56) X dX2_whose_56 3 rfl rfl ?_
          refine r_if_ne (pc := 57) (tgt := 65) X dX2_whose_57 (by decide) ?_ ?_
          · refine r_bipush (pc := 65) X dX2_whose_65 kb_10 ?_
            refine r_istore (pc := 67) (lv' := [(4, .int _), (3, .int _), (0, .ref _), (1, .int _), (2, .int _)]) X dX2_whose_67 (by decide) rfl ?_
            refine r_iconst (pc := 69) X dX2_whose_69 kc_0 ?_
            refine r_istore (pc := 70) (lv' := [(5, .int _), (4, .int _), (3, .int _), (0, .ref _), (1, .int _), (2, .int _)]) X dX2_whose_70 (by decide) rfl ?_
            refine r_iconst (pc := 72) X dX2_whose_72 kc_0 ?_
            refine r_istore (pc := 73) (lv' := [(6, .int _), (5, .int _), (4, .int _), (3, .int _), (0, .ref _), (1, .int _), (2, .int _)]) X dX2_whose_73 (by decide) rfl ?_
            refine r_sub [4, 5, 6, 3, 2, 1, 0] rfl ?_
            exact s_X2_whose_L75 X Z hy FU a0 a1 x3 10 0 0 σ
          · refine r_bipush (pc := 60) X dX2_whose_60 kb_6 ?_
            refine r_goto (pc := 62) (tgt := 67) X dX2_whose_62 (by decide) ?_
            refine r_istore (pc := 67) (lv' := [(4, .int _), (3, .int _), (0, .ref _), (1, .int _), (2, .int _)]) X dX2_whose_67 (by decide) rfl ?_
            refine r_iconst (pc := 69) X dX2_whose_69 kc_0 ?_
            refine r_istore (pc := 70) (lv' := [(5, .int _), (4, .int _), (3, .int _), (0, .ref _), (1, .int _), (2, .int _)]) X dX2_whose_70 (by decide) rfl ?_
            refine r_iconst (pc := 72) X dX2_whose_72 kc_0 ?_
            refine r_istore (pc := 73) (lv' := [(6, .int _), (5, .int _), (4, .int _), (3, .int _), (0, .ref _), (1, .int _), (2, .int _)]) X dX2_whose_73 (by decide) rfl ?_
            refine r_sub [4, 5, 6, 3, 2, 1, 0] rfl ?_
            exact s_X2_whose_L75 X Z hy FU a0 a1 x3 6 0 0 σ
        · refine r_iconst (pc := 54) X dX2_whose_54 kc_0 ?_
          exact r_iret (pc := 55) X Z dX2_whose_55 rfl
      · refine r_sub [0] rfl ?_
        exact s_X2_whose_j26 X Z hy σ
  · refine r_aload_n (pc := 11) X dX2_whose_11 0 rfl rfl ?_
    refine r_iconst (pc := 12) X dX2_whose_12 kc_m1 ?_
    refine r_callvI (pc := 13) X dX2_whose_13 cf_X2_refuse ml_X2_60 (rf rfl rfl) hy oc_0.1 hc_2 (fun b hb => m_X2_refuse hb) rfl rfl (Nat.le_of_ble_eq_true rfl) (fun x6 σ7 => ?_)
    exact r_iret (pc := 16) X Z dX2_whose_16 rfl

set_option maxRecDepth 100000 in
theorem s_X2_placesByKinds_L6 {y : LY} {l : Launch} {E : ET} (X : CX y l E cX2_placesByKinds 7 RX2 (rmd 5)) (Z : ZX E (some .int)) (hy : y.1 ≤ (eS E).heap.size)     (n : Nat) : ∀ (v1 : Int32) (v2 : Int32) (v3 : Int32) (v4 : Int32) (v5 : Int32) (v6 : Int32) (σ : ST), WW y l E 7 (fun a => QM y E (xI a)) 6 [(0, .ref (ad y 0)), (1, .int v1), (2, .int v2), (3, .int v3), (4, .int v4), (5, .int v5), (6, .int v6)] [] σ (T_X2_placesByKinds_L6  n v1 v2 v3 v4 v5 v6 σ) := by
  induction n with
  | zero => intros; exact r_none rfl
  | succ n ih =>
    intro v1 v2 v3 v4 v5 v6 σ
    unfold T_X2_placesByKinds_L6
    refine r_iload (pc := 6) X dX2_placesByKinds_6 6 rfl ?_
    refine r_bipush (pc := 8) X dX2_placesByKinds_8 kb_6 ?_
    refine r_icmp_ge (pc := 10) (tgt := 67) X dX2_placesByKinds_10 (by decide) ?_ ?_
    · refine r_iload (pc := 67) X dX2_placesByKinds_67 5 rfl ?_
      refine r_callsp (pc := 69) X dX2_placesByKinds_69 cf_J6_bitCount_0f7a4 ml_X2_302 (rf rfl rfl) hy (fun b hb => m_J6_bitCount_0f7a4 hb) rfl rfl (Nat.le_of_ble_eq_true rfl) (fun x1 => ?_)
      exact r_iret (pc := 72) X Z dX2_placesByKinds_72 rfl
    · refine r_aload_n (pc := 13) X dX2_placesByKinds_13 0 rfl rfl ?_
      refine r_callvV (pc := 14) X dX2_placesByKinds_14 cf_X2_think ml_X2_67 (rf rfl rfl) hy oc_0.1 hc_2 (fun b hb => m_X2_think hb) rfl rfl (Nat.le_of_ble_eq_true rfl) (fun σ4 => ?_)
      refine r_aload_n (pc := 17) X dX2_placesByKinds_17 0 rfl rfl ?_
      refine r_geto (pc := 18) 2 X dX2_placesByKinds_18 fl_X2_16 rfl (by decide) ?_
      refine r_iload (pc := 21) X dX2_placesByKinds_21 4 rfl ?_
      refine r_puti (pc := 23) X dX2_placesByKinds_23 fl_X2_101 fw_0_13 oc_2 rfl (fun σ5 => ?_)
      refine r_aload_n (pc := 26) X dX2_placesByKinds_26 0 rfl rfl ?_
      refine r_geto (pc := 27) 2 X dX2_placesByKinds_27 fl_X2_16 rfl (by decide) ?_
      refine r_geta (pc := 30) X dX2_placesByKinds_30 fl_X2_114 oc_2 (by decide) ?_
      refine r_iload_n (pc := 33) X dX2_placesByKinds_33 2 rfl rfl ?_
      refine r_iload (pc := 34) X dX2_placesByKinds_34 6 rfl ?_
      refine r_iast (pc := 36) X dX2_placesByKinds_36 ar_2_1 (fun σ6 => ?_)
      refine r_aload_n (pc := 37) X dX2_placesByKinds_37 0 rfl rfl ?_
      refine r_geto (pc := 38) 2 X dX2_placesByKinds_38 fl_X2_16 rfl (by decide) ?_
      refine r_iload_n (pc := 41) X dX2_placesByKinds_41 3 rfl rfl ?_
      refine r_callvV (pc := 42) X dX2_placesByKinds_42 cf_X0_goHours ml_X2_107 (rf rfl rfl) hy oc_2.1 (hc_0 (by decide)) (fun b hb => m_X0_goHours (by decide) hb) rfl rfl (Nat.le_of_ble_eq_true rfl) (fun σ8 => ?_)
      refine r_iload (pc := 45) X dX2_placesByKinds_45 5 rfl ?_
      refine r_iconst (pc := 47) X dX2_placesByKinds_47 kc_1 ?_
      refine r_aload_n (pc := 48) X dX2_placesByKinds_48 0 rfl rfl ?_
      refine r_geto (pc := 49) 2 X dX2_placesByKinds_49 fl_X2_16 rfl (by decide) ?_
      refine r_geta (pc := 52) X dX2_placesByKinds_52 fl_X2_144 oc_2 (by decide) ?_
      refine r_iload_n (pc := 55) X dX2_placesByKinds_55 1 rfl rfl ?_
      refine r_iald (pc := 56) X dX2_placesByKinds_56 ar_2_10 (fun x9 => ?_)
      refine r_ishl (pc := 57) X dX2_placesByKinds_57 rfl ?_
      refine r_ior (pc := 58) X dX2_placesByKinds_58 ?_
      refine r_vl (fun x10 => ?_)
      refine r_istore (pc := 59) (lv' := [(5, .int _), (0, .ref _), (1, .int _), (2, .int _), (3, .int _), (4, .int _), (6, .int _)]) X dX2_placesByKinds_59 (by decide) rfl ?_
      refine r_iinc (pc := 61) (lv' := [(5, .int _), (0, .ref _), (1, .int _), (2, .int _), (3, .int _), (4, .int _)]) X dX2_placesByKinds_61 6 rfl (congrArg (fun z => v6 + z) kc_1) (by decide) rfl (fun x11 => ?_)
      refine r_goto (pc := 64) (tgt := 6) X dX2_placesByKinds_64 (by decide) ?_
      refine r_sub [2, 3, 4, 5, 6, 1, 0] rfl ?_
      exact ih v1 v2 v3 v4 x10 x11 σ8

set_option maxRecDepth 100000 in
theorem m_X2_placesByKinds {y : LY} {l : Launch}  {a0 : Int32} {a1 : Int32} {a2 : Int32} {a3 : Int32} {σ : ST} {a : (Int32 × ST)} (h : T_X2_placesByKinds a0 a1 a2 a3 σ = some a) : MU y l yX2_placesByKinds cX2_placesByKinds 7 (some .int) (rmd 5) [.ref (ad y 0), .int a0, .int a1, .int a2, .int a3] σ (xI a) := by
  refine MU.of (φ := xI) h (by decide +kernel) rfl (fun E X Z hy => ?_)
  have X : CX y l E cX2_placesByKinds 7 RX2 (rmd 5) := X
  show WW y l E 7 _ 0 [(0, .ref (ad y 0)), (1, .int a0), (2, .int a1), (3, .int a2), (4, .int a3)] [] σ (T_X2_placesByKinds a0 a1 a2 a3 σ)
  unfold T_X2_placesByKinds
  refine r_iconst (pc := 0) X dX2_placesByKinds_0 kc_0 ?_
  refine r_istore (pc := 1) (lv' := [(5, .int _), (0, .ref _), (1, .int _), (2, .int _), (3, .int _), (4, .int _)]) X dX2_placesByKinds_1 (by decide) rfl ?_
  refine r_iconst (pc := 3) X dX2_placesByKinds_3 kc_0 ?_
  refine r_istore (pc := 4) (lv' := [(6, .int _), (5, .int _), (0, .ref _), (1, .int _), (2, .int _), (3, .int _), (4, .int _)]) X dX2_placesByKinds_4 (by decide) rfl ?_
  refine r_sub [2, 3, 4, 5, 6, 1, 0] rfl ?_
  exact s_X2_placesByKinds_L6 X Z hy FU a0 a1 a2 a3 0 0 σ

set_option maxRecDepth 100000 in
theorem s_X2_nextTell_L71 {y : LY} {l : Launch} {E : ET} (X : CX y l E cX2_nextTell 10 RX2 (rmd 6)) (Z : ZX E (some .int)) (hy : y.1 ≤ (eS E).heap.size)     (n : Nat) : ∀ (v1 : Int32) (v2 : Int32) (v3 : Int32) (v5 : Int32) (v6 : Int32) (v7 : Int32) (v8 : Int32) (σ : ST), WW y l E 10 (fun a => QM y E (xI a)) 71 [(0, .ref (ad y 0)), (1, .int v1), (2, .int v2), (3, .int v3), (5, .int v5), (6, .int v6), (7, .int v7), (8, .int v8)] [] σ (T_X2_nextTell_L71  n v1 v2 v3 v5 v6 v7 v8 σ) := by
  induction n with
  | zero => intros; exact r_none rfl
  | succ n ih =>
    intro v1 v2 v3 v5 v6 v7 v8 σ
    unfold T_X2_nextTell_L71
    refine r_iload (pc := 71) X dX2_nextTell_71 7 rfl ?_
    refine r_bipush (pc := 73) X dX2_nextTell_73 kb_10 ?_
    refine r_icmp_ge (pc := 75) (tgt := 111) X dX2_nextTell_75 (by decide) ?_ ?_
    · refine r_iload_n (pc := 111) X dX2_nextTell_111 3 rfl rfl ?_
      refine r_if_ne (pc := 112) (tgt := 120) X dX2_nextTell_112 (by decide) ?_ ?_
      · refine r_iload (pc := 120) X dX2_nextTell_120 6 rfl ?_
        exact r_iret (pc := 122) X Z dX2_nextTell_122 rfl
      · refine r_iload (pc := 115) X dX2_nextTell_115 5 rfl ?_
        refine r_goto (pc := 117) (tgt := 122) X dX2_nextTell_117 (by decide) ?_
        exact r_iret (pc := 122) X Z dX2_nextTell_122 rfl
    · refine r_aload_n (pc := 78) X dX2_nextTell_78 0 rfl rfl ?_
      refine r_iload_n (pc := 79) X dX2_nextTell_79 1 rfl rfl ?_
      refine r_iload (pc := 80) X dX2_nextTell_80 4 rfl ?_
      refine r_iload_n (pc := 82) X dX2_nextTell_82 2 rfl rfl ?_
      refine r_iload (pc := 83) X dX2_nextTell_83 7 rfl ?_
      refine r_callvI (pc := 85) X dX2_nextTell_85 cf_X2_placesByKinds ml_X2_298 (rf rfl rfl) hy oc_0.1 hc_2 (fun b hb => m_X2_placesByKinds hb) rfl rfl (Nat.le_of_ble_eq_true rfl) (fun x1 σ2 => ?_)
      refine r_istore (pc := 88) (lv' := [(9, .int _), (0, .ref _), (1, .int _), (2, .int _), (3, .int _), (5, .int _), (6, .int _), (7, .int _), (8, .int _)]) X dX2_nextTell_88 (by decide) rfl ?_
      refine r_iload (pc := 90) X dX2_nextTell_90 0 rfl ?_
      refine r_iload (pc := 92) X dX2_nextTell_92 7 rfl ?_
      refine r_icmp_le (pc := 94) (tgt := 105) X dX2_nextTell_94 (by decide) ?_ ?_
      · refine r_iinc (pc := 105) (lv' := [(9, .int _), (0, .ref _), (1, .int _), (2, .int _), (3, .int _), (5, .int _), (6, .int _), (7, .int _)]) X dX2_nextTell_105 8 rfl (congrArg (fun z => v8 + z) kc_1) (by decide) rfl (fun x3 => ?_)
        refine r_goto (pc := 108) (tgt := 71) X dX2_nextTell_108 (by decide) ?_
        refine r_sub [2, 3, 4, 5, 6, 7, 8, 0] rfl ?_
        exact ih v1 v2 v3 v5 v6 v7 x3 σ2
      · refine r_iload (pc := 97) X dX2_nextTell_97 0 rfl ?_
        refine r_istore (pc := 99) (lv' := [(7, .int _), (9, .int _), (0, .ref _), (1, .int _), (2, .int _), (3, .int _), (5, .int _), (6, .int _), (8, .int _)]) X dX2_nextTell_99 (by decide) rfl ?_
        refine r_iload (pc := 101) X dX2_nextTell_101 8 rfl ?_
        refine r_istore (pc := 103) (lv' := [(6, .int _), (7, .int _), (9, .int _), (0, .ref _), (1, .int _), (2, .int _), (3, .int _), (5, .int _), (8, .int _)]) X dX2_nextTell_103 (by decide) rfl ?_
        refine r_iinc (pc := 105) (lv' := [(6, .int _), (7, .int _), (9, .int _), (0, .ref _), (1, .int _), (2, .int _), (3, .int _), (5, .int _)]) X dX2_nextTell_105 8 rfl (congrArg (fun z => v8 + z) kc_1) (by decide) rfl (fun x4 => ?_)
        refine r_goto (pc := 108) (tgt := 71) X dX2_nextTell_108 (by decide) ?_
        refine r_sub [4, 5, 6, 7, 8, 1, 2, 0] rfl ?_
        exact ih v1 v2 v3 v5 v8 x1 x4 σ2

set_option maxRecDepth 100000 in
theorem m_X2_nextTell {y : LY} {l : Launch}  {a0 : Int32} {a1 : Int32} {a2 : Int32} {σ : ST} {a : (Int32 × ST)} (h : T_X2_nextTell a0 a1 a2 σ = some a) : MU y l yX2_nextTell cX2_nextTell 10 (some .int) (rmd 6) [.ref (ad y 0), .int a0, .int a1, .int a2] σ (xI a) := by
  refine MU.of (φ := xI) h (by decide +kernel) rfl (fun E X Z hy => ?_)
  have X : CX y l E cX2_nextTell 10 RX2 (rmd 6) := X
  show WW y l E 10 _ 0 [(0, .ref (ad y 0)), (1, .int a0), (2, .int a1), (3, .int a2)] [] σ (T_X2_nextTell a0 a1 a2 σ)
  unfold T_X2_nextTell
  refine r_aload_n (pc := 0) X dX2_nextTell_0 0 rfl rfl ?_
  refine r_geto (pc := 1) 1 X dX2_nextTell_1 fl_X2_12 rfl (by decide) ?_
  refine r_iload_n (pc := 4) X dX2_nextTell_4 1 rfl rfl ?_
  refine r_callvp (pc := 5) X dX2_nextTell_5 cf_X0_hasBearer ml_X2_135 (rf rfl rfl) hy oc_1.1 (hc_0 (by decide)) (fun b hb => m_X0_hasBearer (by decide) hb) rfl rfl (Nat.le_of_ble_eq_true rfl) (fun x1 => ?_)
  refine r_if_ne (pc := 8) (tgt := 17) X dX2_nextTell_8 (by decide) ?_ ?_
  · refine r_iload_n (pc := 17) X dX2_nextTell_17 2 rfl rfl ?_
    refine r_iload_n (pc := 18) X dX2_nextTell_18 3 rfl rfl ?_
    refine r_iconst (pc := 19) X dX2_nextTell_19 kc_1 ?_
    refine r_callsp (pc := 20) X dX2_nextTell_20 cf_X2_wrongHoursOrWhat ml_X2_199 (rf rfl rfl) hy (fun b hb => m_X2_wrongHoursOrWhat hb) rfl rfl (Nat.le_of_ble_eq_true rfl) (fun x3 => ?_)
    refine r_istore (pc := 23) (lv' := [(4, .int _), (0, .ref _), (1, .int _), (2, .int _), (3, .int _)]) X dX2_nextTell_23 (by decide) rfl ?_
    refine r_iload (pc := 25) X dX2_nextTell_25 0 rfl ?_
    refine r_if_eq (pc := 27) (tgt := 37) X dX2_nextTell_27 (by decide) ?_ ?_
    · refine r_aload_n (pc := 37) X dX2_nextTell_37 1 rfl rfl ?_
      refine r_geto (pc := 38) 1 X dX2_nextTell_38 fl_X2_12 rfl (by decide) ?_
      refine r_geta (pc := 41) X dX2_nextTell_41 fl_X2_147 oc_1 (by decide) ?_
      refine r_iload_n (pc := 44) X dX2_nextTell_44 2 rfl rfl ?_
      refine r_iald (pc := 45) X dX2_nextTell_45 ar_1_11 (fun x5 => ?_)
      refine r_istore (pc := 46) (lv' := [(5, .int _), (4, .int _), (0, .ref _), (1, .int _), (2, .int _), (3, .int _)]) X dX2_nextTell_46 (by decide) rfl ?_
      refine r_aload_n (pc := 48) X dX2_nextTell_48 2 rfl rfl ?_
      refine r_geto (pc := 49) 1 X dX2_nextTell_49 fl_X2_12 rfl (by decide) ?_
      refine r_iload (pc := 52) X dX2_nextTell_52 0 rfl ?_
      refine r_callvp (pc := 54) X dX2_nextTell_54 cf_X0_hasBag ml_X2_111 (rf rfl rfl) hy oc_1.1 (hc_0 (by decide)) (fun b hb => m_X0_hasBag (by decide) hb) rfl rfl (Nat.le_of_ble_eq_true rfl) (fun x6 => ?_)
      refine r_if_ne (pc := 57) (tgt := 62) X dX2_nextTell_57 (by decide) ?_ ?_
      · refine r_iconst (pc := 62) X dX2_nextTell_62 kc_0 ?_
        refine r_istore (pc := 63) (lv' := [(6, .int _), (5, .int _), (4, .int _), (0, .ref _), (1, .int _), (2, .int _), (3, .int _)]) X dX2_nextTell_63 (by decide) rfl ?_
        refine r_iconst (pc := 65) X dX2_nextTell_65 kc_0 ?_
        refine r_istore (pc := 66) (lv' := [(7, .int _), (6, .int _), (5, .int _), (4, .int _), (0, .ref _), (1, .int _), (2, .int _), (3, .int _)]) X dX2_nextTell_66 (by decide) rfl ?_
        refine r_iconst (pc := 68) X dX2_nextTell_68 kc_0 ?_
        refine r_istore (pc := 69) (lv' := [(8, .int _), (7, .int _), (6, .int _), (5, .int _), (4, .int _), (0, .ref _), (1, .int _), (2, .int _), (3, .int _)]) X dX2_nextTell_69 (by decide) rfl ?_
        refine r_sub [5, 6, 7, 8, 3, 2, 1, 0] rfl ?_
        exact s_X2_nextTell_L71 X Z hy FU a0 a1 a2 x5 0 0 0 σ
      · refine r_iload_n (pc := 60) X dX2_nextTell_60 5 rfl rfl ?_
        exact r_iret (pc := 61) X Z dX2_nextTell_61 rfl
    · refine r_aload_n (pc := 30) X dX2_nextTell_30 1 rfl rfl ?_
      refine r_iload (pc := 31) X dX2_nextTell_31 0 rfl ?_
      refine r_callvI (pc := 33) X dX2_nextTell_33 cf_X2_refuse ml_X2_60 (rf rfl rfl) hy oc_0.1 hc_2 (fun b hb => m_X2_refuse hb) rfl rfl (Nat.le_of_ble_eq_true rfl) (fun x8 σ9 => ?_)
      exact r_iret (pc := 36) X Z dX2_nextTell_36 rfl
  · refine r_aload_n (pc := 11) X dX2_nextTell_11 0 rfl rfl ?_
    refine r_iconst (pc := 12) X dX2_nextTell_12 kc_m1 ?_
    refine r_callvI (pc := 13) X dX2_nextTell_13 cf_X2_refuse ml_X2_60 (rf rfl rfl) hy oc_0.1 hc_2 (fun b hb => m_X2_refuse hb) rfl rfl (Nat.le_of_ble_eq_true rfl) (fun x10 σ11 => ?_)
    exact r_iret (pc := 16) X Z dX2_nextTell_16 rfl

set_option maxRecDepth 100000 in
theorem s_X2_arm_L58 {y : LY} {l : Launch} {E : ET} (X : CX y l E cX2_arm 6 RX2 (rmd 5)) (Z : ZX E (some .int)) (hy : y.1 ≤ (eS E).heap.size)     (n : Nat) : ∀ (v1 : Int32) (v2 : Int32) (v3 : Int32) (v5 : Int32) (σ : ST), WW y l E 6 (fun a => QM y E (xI a)) 58 [(0, .ref (ad y 0)), (1, .int v1), (2, .int v2), (3, .int v3), (5, .int v5)] [] σ (T_X2_arm_L58  n v1 v2 v3 v5 σ) := by
  induction n with
  | zero => intros; exact r_none rfl
  | succ n ih =>
    intro v1 v2 v3 v5 σ
    unfold T_X2_arm_L58
    refine r_iload (pc := 58) X dX2_arm_58 4 rfl ?_
    refine r_iload_n (pc := 60) X dX2_arm_60 3 rfl rfl ?_
    refine r_icmp_ge (pc := 61) (tgt := 79) X dX2_arm_61 (by decide) ?_ ?_
    · refine r_aload_n (pc := 79) X dX2_arm_79 0 rfl rfl ?_
      refine r_geto (pc := 80) 2 X dX2_arm_80 fl_X2_16 rfl (by decide) ?_
      refine r_geta (pc := 83) X dX2_arm_83 fl_X2_144 oc_2 (by decide) ?_
      refine r_iload_n (pc := 86) X dX2_arm_86 1 rfl rfl ?_
      refine r_iald (pc := 87) X dX2_arm_87 ar_2_10 (fun x1 => ?_)
      exact r_iret (pc := 88) X Z dX2_arm_88 rfl
    · refine r_aload_n (pc := 64) X dX2_arm_64 0 rfl rfl ?_
      refine r_geto (pc := 65) 2 X dX2_arm_65 fl_X2_16 rfl (by decide) ?_
      refine r_iload_n (pc := 68) X dX2_arm_68 1 rfl rfl ?_
      refine r_iload_n (pc := 69) X dX2_arm_69 2 rfl rfl ?_
      refine r_callvV (pc := 70) X dX2_arm_70 cf_X0_goArmInArm ml_X2_307 (rf rfl rfl) hy oc_2.1 (hc_0 (by decide)) (fun b hb => m_X0_goArmInArm (by decide) hb) rfl rfl (Nat.le_of_ble_eq_true rfl) (fun σ3 => ?_)
      refine r_iinc (pc := 73) (lv' := [(0, .ref _), (1, .int _), (2, .int _), (3, .int _)]) X dX2_arm_73 4 rfl (congrArg (fun z => v5 + z) kc_1) (by decide) rfl (fun x4 => ?_)
      refine r_goto (pc := 76) (tgt := 58) X dX2_arm_76 (by decide) ?_
      refine r_sub [1, 2, 3, 4, 0] rfl ?_
      exact ih v1 v2 v3 x4 σ3

set_option maxRecDepth 100000 in
theorem m_X2_arm {y : LY} {l : Launch}  {a0 : Int32} {a1 : Int32} {a2 : Int32} {σ : ST} {a : (Int32 × ST)} (h : T_X2_arm a0 a1 a2 σ = some a) : MU y l yX2_arm cX2_arm 6 (some .int) (rmd 5) [.ref (ad y 0), .int a0, .int a1, .int a2] σ (xI a) := by
  refine MU.of (φ := xI) h (by decide +kernel) rfl (fun E X Z hy => ?_)
  have X : CX y l E cX2_arm 6 RX2 (rmd 5) := X
  show WW y l E 6 _ 0 [(0, .ref (ad y 0)), (1, .int a0), (2, .int a1), (3, .int a2)] [] σ (T_X2_arm a0 a1 a2 σ)
  unfold T_X2_arm
  refine r_aload_n (pc := 0) X dX2_arm_0 0 rfl rfl ?_
  refine r_iload_n (pc := 1) X dX2_arm_1 1 rfl rfl ?_
  refine r_iload_n (pc := 2) X dX2_arm_2 2 rfl rfl ?_
  refine r_callvp (pc := 3) X dX2_arm_3 cf_X2_areTwo ml_X2_190 (rf rfl rfl) hy oc_0.1 hc_2 (fun b hb => m_X2_areTwo hb) rfl rfl (Nat.le_of_ble_eq_true rfl) (fun x1 => ?_)
  refine r_if_ne (pc := 6) (tgt := 15) X dX2_arm_6 (by decide) ?_ ?_
  · refine r_iload_n (pc := 15) X dX2_arm_15 3 rfl rfl ?_
    refine r_callsp (pc := 16) X dX2_arm_16 cf_X2_wrongHours ml_X2_184 (rf rfl rfl) hy (fun b hb => m_X2_wrongHours hb) rfl rfl (Nat.le_of_ble_eq_true rfl) (fun x3 => ?_)
    refine r_istore (pc := 19) (lv' := [(4, .int _), (0, .ref _), (1, .int _), (2, .int _), (3, .int _)]) X dX2_arm_19 (by decide) rfl ?_
    refine r_iload (pc := 21) X dX2_arm_21 0 rfl ?_
    refine r_if_eq (pc := 23) (tgt := 33) X dX2_arm_23 (by decide) ?_ ?_
    · refine r_aload_n (pc := 33) X dX2_arm_33 1 rfl rfl ?_
      refine r_callvV (pc := 34) X dX2_arm_34 cf_X2_think ml_X2_67 (rf rfl rfl) hy oc_0.1 hc_2 (fun b hb => m_X2_think hb) rfl rfl (Nat.le_of_ble_eq_true rfl) (fun σ6 => ?_)
      refine r_aload_n (pc := 37) X dX2_arm_37 1 rfl rfl ?_
      refine r_geto (pc := 38) 2 X dX2_arm_38 fl_X2_16 rfl (by decide) ?_
      refine r_geta (pc := 41) X dX2_arm_41 fl_X2_144 oc_2 (by decide) ?_
      refine r_iload_n (pc := 44) X dX2_arm_44 3 rfl rfl ?_
      refine r_aload_n (pc := 45) X dX2_arm_45 1 rfl rfl ?_
      refine r_geto (pc := 46) 2 X dX2_arm_46 fl_X2_16 rfl (by decide) ?_
      refine r_geta (pc := 49) X dX2_arm_49 fl_X2_144 oc_2 (by decide) ?_
      refine r_iload_n (pc := 52) X dX2_arm_52 2 rfl rfl ?_
      refine r_iald (pc := 53) X dX2_arm_53 ar_2_10 (fun x7 => ?_)
      refine r_iast (pc := 54) X dX2_arm_54 ar_2_10 (fun σ8 => ?_)
      refine r_iconst (pc := 55) X dX2_arm_55 kc_0 ?_
      refine r_istore (pc := 56) (lv' := [(5, .int _), (4, .int _), (0, .ref _), (1, .int _), (2, .int _), (3, .int _)]) X dX2_arm_56 (by decide) rfl ?_
      refine r_sub [2, 3, 4, 5, 0] rfl ?_
      exact s_X2_arm_L58 X Z hy FU a0 a1 a2 0 σ8
    · refine r_aload_n (pc := 26) X dX2_arm_26 1 rfl rfl ?_
      refine r_iload (pc := 27) X dX2_arm_27 0 rfl ?_
      refine r_callvI (pc := 29) X dX2_arm_29 cf_X2_refuse ml_X2_60 (rf rfl rfl) hy oc_0.1 hc_2 (fun b hb => m_X2_refuse hb) rfl rfl (Nat.le_of_ble_eq_true rfl) (fun x9 σ10 => ?_)
      exact r_iret (pc := 32) X Z dX2_arm_32 rfl
  · refine r_aload_n (pc := 9) X dX2_arm_9 0 rfl rfl ?_
    refine r_iconst (pc := 10) X dX2_arm_10 kc_m1 ?_
    refine r_callvI (pc := 11) X dX2_arm_11 cf_X2_refuse ml_X2_60 (rf rfl rfl) hy oc_0.1 hc_2 (fun b hb => m_X2_refuse hb) rfl rfl (Nat.le_of_ble_eq_true rfl) (fun x11 σ12 => ?_)
    exact r_iret (pc := 14) X Z dX2_arm_14 rfl

set_option maxRecDepth 100000 in
theorem m_X2_wrongSleep {y : LY} {l : Launch}  {a0 : Int32} {a1 : Int32} {a2 : Int32} {a3 : Int32} {a4 : Int32} {σ : ST} {a : Int32} (h : T_X2_wrongSleep σ a0 a1 a2 a3 a4 = some a) : MU y l yX2_wrongSleep cX2_wrongSleep 6 (some .int) (rmd 1) [.ref (ad y 0), .int a0, .int a1, .int a2, .int a3, .int a4] σ (xp σ a) := by
  refine MU.of (φ := xp σ) h (by decide +kernel) rfl (fun E X Z hy => ?_)
  have X : CX y l E cX2_wrongSleep 6 RX2 (rmd 1) := X
  show WW y l E 6 _ 0 [(0, .ref (ad y 0)), (1, .int a0), (2, .int a1), (3, .int a2), (4, .int a3), (5, .int a4)] [] σ (T_X2_wrongSleep σ a0 a1 a2 a3 a4)
  unfold T_X2_wrongSleep
  refine r_aload_n (pc := 0) X dX2_wrongSleep_0 0 rfl rfl ?_
  refine r_geto (pc := 1) 1 X dX2_wrongSleep_1 fl_X2_12 rfl (by decide) ?_
  refine r_iload_n (pc := 4) X dX2_wrongSleep_4 1 rfl rfl ?_
  refine r_callvp (pc := 5) X dX2_wrongSleep_5 cf_X0_hasBearer ml_X2_135 (rf rfl rfl) hy oc_1.1 (hc_0 (by decide)) (fun b hb => m_X0_hasBearer (by decide) hb) rfl rfl (Nat.le_of_ble_eq_true rfl) (fun x1 => ?_)
  refine r_if_eq (pc := 8) (tgt := 18) X dX2_wrongSleep_8 (by decide) ?_ ?_
  · refine r_iconst (pc := 18) X dX2_wrongSleep_18 kc_m1 ?_
    exact r_iret (pc := 19) X Z dX2_wrongSleep_19 rfl
  · refine r_iload_n (pc := 11) X dX2_wrongSleep_11 2 rfl rfl ?_
    refine r_callsp (pc := 12) X dX2_wrongSleep_12 cf_X2_isPlace ml_X2_175 (rf rfl rfl) hy (fun b hb => m_X2_isPlace hb) rfl rfl (Nat.le_of_ble_eq_true rfl) (fun x3 => ?_)
    refine r_if_ne (pc := 15) (tgt := 20) X dX2_wrongSleep_15 (by decide) ?_ ?_
    · refine r_iload_n (pc := 20) X dX2_wrongSleep_20 3 rfl rfl ?_
      refine r_if_lt (pc := 21) (tgt := 30) X dX2_wrongSleep_21 (by decide) ?_ ?_
      · refine r_bipush (pc := 30) X dX2_wrongSleep_30 kb_m4 ?_
        exact r_iret (pc := 32) X Z dX2_wrongSleep_32 rfl
      · refine r_iload (pc := 24) X dX2_wrongSleep_24 4 rfl ?_
        refine r_iconst (pc := 26) X dX2_wrongSleep_26 kc_2 ?_
        refine r_icmp_ge (pc := 27) (tgt := 33) X dX2_wrongSleep_27 (by decide) ?_ ?_
        · refine r_iload_n (pc := 33) X dX2_wrongSleep_33 3 rfl rfl ?_
          refine r_bipush (pc := 34) X dX2_wrongSleep_34 kb_8 ?_
          refine r_icmp_gt (pc := 36) (tgt := 46) X dX2_wrongSleep_36 (by decide) ?_ ?_
          · refine r_bipush (pc := 46) X dX2_wrongSleep_46 kb_m6 ?_
            exact r_iret (pc := 48) X Z dX2_wrongSleep_48 rfl
          · refine r_iload (pc := 39) X dX2_wrongSleep_39 4 rfl ?_
            refine r_bipush (pc := 41) X dX2_wrongSleep_41 kb_20 ?_
            refine r_icmp_le (pc := 43) (tgt := 49) X dX2_wrongSleep_43 (by decide) ?_ ?_
            · refine r_iload (pc := 49) X dX2_wrongSleep_49 5 rfl ?_
              refine r_if_lt (pc := 51) (tgt := 60) X dX2_wrongSleep_51 (by decide) ?_ ?_
              · refine r_bipush (pc := 60) X dX2_wrongSleep_60 kb_m2 ?_
                refine r_goto (pc := 62) (tgt := 66) X dX2_wrongSleep_62 (by decide) ?_
                exact r_iret (pc := 66) X Z dX2_wrongSleep_66 rfl
              · refine r_iload (pc := 54) X dX2_wrongSleep_54 5 rfl ?_
                refine r_iconst (pc := 56) X dX2_wrongSleep_56 kc_1 ?_
                refine r_icmp_le (pc := 57) (tgt := 65) X dX2_wrongSleep_57 (by decide) ?_ ?_
                · refine r_iconst (pc := 65) X dX2_wrongSleep_65 kc_0 ?_
                  exact r_iret (pc := 66) X Z dX2_wrongSleep_66 rfl
                · refine r_bipush (pc := 60) X dX2_wrongSleep_60 kb_m2 ?_
                  refine r_goto (pc := 62) (tgt := 66) X dX2_wrongSleep_62 (by decide) ?_
                  exact r_iret (pc := 66) X Z dX2_wrongSleep_66 rfl
            · refine r_bipush (pc := 46) X dX2_wrongSleep_46 kb_m6 ?_
              exact r_iret (pc := 48) X Z dX2_wrongSleep_48 rfl
        · refine r_bipush (pc := 30) X dX2_wrongSleep_30 kb_m4 ?_
          exact r_iret (pc := 32) X Z dX2_wrongSleep_32 rfl
    · refine r_iconst (pc := 18) X dX2_wrongSleep_18 kc_m1 ?_
      exact r_iret (pc := 19) X Z dX2_wrongSleep_19 rfl

set_option maxRecDepth 100000 in
theorem s_X2_walkAsleep_j67 {y : LY} {l : Launch} {E : ET} (X : CX y l E cX2_walkAsleep 9 RX2 (rmd 5)) (Z : ZX E (some .long)) (hy : y.1 ≤ (eS E).heap.size)   {K10 : Int32 → Int32 → Int32 → Int32 → Int64 → Int32 → ST → Option (Int64 × ST)} (hK10 : ∀ (v1 : Int32) (v2 : Int32) (v3 : Int32) (v4 : Int32) (v5 : Int64) (v7 : Int32) (σ : ST), WW y l E 9 (fun a => QM y E (xJ a)) 10 [(0, .ref (ad y 0)), (1, .int v1), (2, .int v2), (3, .int v3), (4, .int v4), (5, .long v5), (7, .int v7)] [] σ (K10 v1 v2 v3 v4 v5 v7 σ)) (v1 : Int32) (v2 : Int32) (v3 : Int32) (v4 : Int32) (v7 : Int32) (s0 : Int64) (s1 : Int64) (σ : ST) : WW y l E 9 (fun a => QM y E (xJ a)) 67 [(0, .ref (ad y 0)), (1, .int v1), (2, .int v2), (3, .int v3), (4, .int v4), (7, .int v7)] [.long s0, .long s1] σ (T_X2_walkAsleep_j67 K10  v1 v2 v3 v4 v7 s0 s1 σ) := by
  unfold T_X2_walkAsleep_j67
  refine r_lmul (pc := 67) X dX2_walkAsleep_67 ?_
  refine r_vL (fun x1 => ?_)
  refine r_lstore (pc := 68) (lv' := [(5, .long _), (0, .ref _), (1, .int _), (2, .int _), (3, .int _), (4, .int _), (7, .int _)]) X dX2_walkAsleep_68 (by decide) rfl ?_
  refine r_aload_n (pc := 70) X dX2_walkAsleep_70 1 rfl rfl ?_
  refine r_geto (pc := 71) 2 X dX2_walkAsleep_71 fl_X2_16 rfl (by decide) ?_
  refine r_iconst (pc := 74) X dX2_walkAsleep_74 kc_1 ?_
  refine r_callvV (pc := 75) X dX2_walkAsleep_75 cf_X0_goHours ml_X2_107 (rf rfl rfl) hy oc_2.1 (hc_0 (by decide)) (fun b hb => m_X0_goHours (by decide) hb) rfl rfl (Nat.le_of_ble_eq_true rfl) (fun σ3 => ?_)
  refine r_iinc (pc := 78) (lv' := [(5, .long _), (0, .ref _), (1, .int _), (2, .int _), (3, .int _), (4, .int _)]) X dX2_walkAsleep_78 6 rfl (congrArg (fun z => v7 + z) kc_1) (by decide) rfl (fun x4 => ?_)
  refine r_goto (pc := 81) (tgt := 10) X dX2_walkAsleep_81 (by decide) ?_
  refine r_sub [2, 3, 4, 5, 6, 1, 0] rfl ?_
  exact hK10 v1 v2 v3 v4 x1 x4 σ3

set_option maxRecDepth 100000 in
theorem s_X2_walkAsleep_j49 {y : LY} {l : Launch} {E : ET} (X : CX y l E cX2_walkAsleep 9 RX2 (rmd 5)) (Z : ZX E (some .long)) (hy : y.1 ≤ (eS E).heap.size)   {K10 : Int32 → Int32 → Int32 → Int32 → Int64 → Int32 → ST → Option (Int64 × ST)} (hK10 : ∀ (v1 : Int32) (v2 : Int32) (v3 : Int32) (v4 : Int32) (v5 : Int64) (v7 : Int32) (σ : ST), WW y l E 9 (fun a => QM y E (xJ a)) 10 [(0, .ref (ad y 0)), (1, .int v1), (2, .int v2), (3, .int v3), (4, .int v4), (5, .long v5), (7, .int v7)] [] σ (K10 v1 v2 v3 v4 v5 v7 σ)) (v1 : Int32) (v2 : Int32) (v3 : Int32) (v4 : Int32) (v5 : Int64) (v7 : Int32) (v8 : Int32) (s0 : Int32) (σ : ST) : WW y l E 9 (fun a => QM y E (xJ a)) 49 [(0, .ref (ad y 0)), (1, .int v1), (2, .int v2), (3, .int v3), (4, .int v4), (5, .long v5), (7, .int v7), (8, .int v8)] [.int s0, .ref (ad y 2)] σ (T_X2_walkAsleep_j49 K10  v1 v2 v3 v4 v5 v7 v8 s0 σ) := by
  unfold T_X2_walkAsleep_j49
  refine r_puti (pc := 49) X dX2_walkAsleep_49 fl_X2_326 fw_0_18 oc_2 rfl (fun σ1 => ?_)
  refine r_lload (pc := 52) X dX2_walkAsleep_52 5 rfl ?_
  refine r_iload (pc := 54) X dX2_walkAsleep_54 7 rfl ?_
  refine r_if_eq (pc := 56) (tgt := 63) X dX2_walkAsleep_56 (by decide) ?_ ?_
  · refine r_iload_n (pc := 63) X dX2_walkAsleep_63 3 rfl rfl ?_
    refine r_iconst (pc := 64) X dX2_walkAsleep_64 kc_1 ?_
    refine r_isub (pc := 65) X dX2_walkAsleep_65 ?_
    refine r_i2l (pc := 66) X dX2_walkAsleep_66 ?_
    refine r_sub [0, 1, 2, 3, 4, 6] rfl ?_
    exact s_X2_walkAsleep_j67 X Z hy hK10 v1 v2 v3 v4 v7 ((v3 - 1).toInt64) v5 σ1
  · refine r_lconst (pc := 59) X dX2_walkAsleep_59 (by decide : Int64.ofNat _ = 1) ?_
    refine r_goto (pc := 60) (tgt := 67) X dX2_walkAsleep_60 (by decide) ?_
    refine r_sub [0, 1, 2, 3, 4, 6] rfl ?_
    exact s_X2_walkAsleep_j67 X Z hy hK10 v1 v2 v3 v4 v7 1 v5 σ1

set_option maxRecDepth 100000 in
theorem s_X2_walkAsleep_j32 {y : LY} {l : Launch} {E : ET} (X : CX y l E cX2_walkAsleep 9 RX2 (rmd 5)) (Z : ZX E (some .long)) (hy : y.1 ≤ (eS E).heap.size)   {K10 : Int32 → Int32 → Int32 → Int32 → Int64 → Int32 → ST → Option (Int64 × ST)} (hK10 : ∀ (v1 : Int32) (v2 : Int32) (v3 : Int32) (v4 : Int32) (v5 : Int64) (v7 : Int32) (σ : ST), WW y l E 9 (fun a => QM y E (xJ a)) 10 [(0, .ref (ad y 0)), (1, .int v1), (2, .int v2), (3, .int v3), (4, .int v4), (5, .long v5), (7, .int v7)] [] σ (K10 v1 v2 v3 v4 v5 v7 σ)) (v1 : Int32) (v2 : Int32) (v3 : Int32) (v4 : Int32) (v5 : Int64) (v7 : Int32) (s0 : Int32) (σ : ST) : WW y l E 9 (fun a => QM y E (xJ a)) 32 [(0, .ref (ad y 0)), (1, .int v1), (2, .int v2), (3, .int v3), (4, .int v4), (5, .long v5), (7, .int v7)] [.int s0] σ (T_X2_walkAsleep_j32 K10  v1 v2 v3 v4 v5 v7 s0 σ) := by
  unfold T_X2_walkAsleep_j32
  refine r_istore (pc := 32) (lv' := [(8, .int _), (0, .ref _), (1, .int _), (2, .int _), (3, .int _), (4, .int _), (5, .long _), (7, .int _)]) X dX2_walkAsleep_32 (by decide) rfl ?_
  refine r_aload_n (pc := 34) X dX2_walkAsleep_34 1 rfl rfl ?_
  refine r_geto (pc := 35) 2 X dX2_walkAsleep_35 fl_X2_16 rfl (by decide) ?_
  refine r_iload (pc := 38) X dX2_walkAsleep_38 0 rfl ?_
  refine r_if_eq (pc := 40) (tgt := 47) X dX2_walkAsleep_40 (by decide) ?_ ?_
  · refine r_bipush (pc := 47) X dX2_walkAsleep_47 kb_m9 ?_
    refine r_sub [1, 2, 3, 4, 5, 6, 7, 0] rfl ?_
    exact s_X2_walkAsleep_j49 X Z hy hK10 v1 v2 v3 v4 v5 v7 s0 ((-9)) σ
  · refine r_iload_n (pc := 43) X dX2_walkAsleep_43 2 rfl rfl ?_
    refine r_goto (pc := 44) (tgt := 49) X dX2_walkAsleep_44 (by decide) ?_
    refine r_sub [1, 2, 3, 4, 5, 6, 7, 0] rfl ?_
    exact s_X2_walkAsleep_j49 X Z hy hK10 v1 v2 v3 v4 v5 v7 s0 v1 σ

set_option maxRecDepth 100000 in
theorem s_X2_walkAsleep_L10 {y : LY} {l : Launch} {E : ET} (X : CX y l E cX2_walkAsleep 9 RX2 (rmd 5)) (Z : ZX E (some .long)) (hy : y.1 ≤ (eS E).heap.size)     (n : Nat) : ∀ (v1 : Int32) (v2 : Int32) (v3 : Int32) (v4 : Int32) (v5 : Int64) (v7 : Int32) (σ : ST), WW y l E 9 (fun a => QM y E (xJ a)) 10 [(0, .ref (ad y 0)), (1, .int v1), (2, .int v2), (3, .int v3), (4, .int v4), (5, .long v5), (7, .int v7)] [] σ (T_X2_walkAsleep_L10  n v1 v2 v3 v4 v5 v7 σ) := by
  induction n with
  | zero => intros; exact r_none rfl
  | succ n ih =>
    intro v1 v2 v3 v4 v5 v7 σ
    unfold T_X2_walkAsleep_L10
    refine r_iload (pc := 10) X dX2_walkAsleep_10 6 rfl ?_
    refine r_iload_n (pc := 12) X dX2_walkAsleep_12 2 rfl rfl ?_
    refine r_icmp_ge (pc := 13) (tgt := 84) X dX2_walkAsleep_13 (by decide) ?_ ?_
    · refine r_lload (pc := 84) X dX2_walkAsleep_84 5 rfl ?_
      exact r_lret (pc := 86) X Z dX2_walkAsleep_86 rfl
    · refine r_iload (pc := 16) X dX2_walkAsleep_16 4 rfl ?_
      refine r_iload (pc := 18) X dX2_walkAsleep_18 6 rfl ?_
      refine r_ishr (pc := 20) X dX2_walkAsleep_20 rfl ?_
      refine r_iconst (pc := 21) X dX2_walkAsleep_21 kc_1 ?_
      refine r_iand (pc := 22) X dX2_walkAsleep_22 ?_
      refine r_iconst (pc := 23) X dX2_walkAsleep_23 kc_1 ?_
      refine r_icmp_ne (pc := 24) (tgt := 31) X dX2_walkAsleep_24 (by decide) ?_ ?_
      · refine r_iconst (pc := 31) X dX2_walkAsleep_31 kc_0 ?_
        exact s_X2_walkAsleep_j32 X Z hy (fun v1 v2 v3 v4 v5 v7 s => ih v1 v2 v3 v4 v5 v7 s) v1 v2 v3 v4 v5 v7 0 σ
      · refine r_iconst (pc := 27) X dX2_walkAsleep_27 kc_1 ?_
        refine r_goto (pc := 28) (tgt := 32) X dX2_walkAsleep_28 (by decide) ?_
        exact s_X2_walkAsleep_j32 X Z hy (fun v1 v2 v3 v4 v5 v7 s => ih v1 v2 v3 v4 v5 v7 s) v1 v2 v3 v4 v5 v7 1 σ

set_option maxRecDepth 100000 in
theorem m_X2_walkAsleep {y : LY} {l : Launch}  {a0 : Int32} {a1 : Int32} {a2 : Int32} {a3 : Int32} {σ : ST} {a : (Int64 × ST)} (h : T_X2_walkAsleep a0 a1 a2 a3 σ = some a) : MU y l yX2_walkAsleep cX2_walkAsleep 9 (some .long) (rmd 5) [.ref (ad y 0), .int a0, .int a1, .int a2, .int a3] σ (xJ a) := by
  refine MU.of (φ := xJ) h (by decide +kernel) rfl (fun E X Z hy => ?_)
  have X : CX y l E cX2_walkAsleep 9 RX2 (rmd 5) := X
  show WW y l E 9 _ 0 [(0, .ref (ad y 0)), (1, .int a0), (2, .int a1), (3, .int a2), (4, .int a3)] [] σ (T_X2_walkAsleep a0 a1 a2 a3 σ)
  unfold T_X2_walkAsleep
  refine r_aload_n (pc := 0) X dX2_walkAsleep_0 0 rfl rfl ?_
  refine r_callvV (pc := 1) X dX2_walkAsleep_1 cf_X2_think ml_X2_67 (rf rfl rfl) hy oc_0.1 hc_2 (fun b hb => m_X2_think hb) rfl rfl (Nat.le_of_ble_eq_true rfl) (fun σ2 => ?_)
  refine r_lconst (pc := 4) X dX2_walkAsleep_4 (by decide : Int64.ofNat _ = 1) ?_
  refine r_lstore (pc := 5) (lv' := [(5, .long _), (0, .ref _), (1, .int _), (2, .int _), (3, .int _), (4, .int _)]) X dX2_walkAsleep_5 (by decide) rfl ?_
  refine r_iconst (pc := 7) X dX2_walkAsleep_7 kc_0 ?_
  refine r_istore (pc := 8) (lv' := [(7, .int _), (5, .long _), (0, .ref _), (1, .int _), (2, .int _), (3, .int _), (4, .int _)]) X dX2_walkAsleep_8 (by decide) rfl ?_
  refine r_sub [2, 3, 4, 5, 6, 1, 0] rfl ?_
  exact s_X2_walkAsleep_L10 X Z hy FU a0 a1 a2 a3 1 0 σ2

set_option maxRecDepth 100000 in
theorem s_X2_commonDivisor_L9 {y : LY} {l : Launch} {E : ET} (X : CX y l E cX2_commonDivisor 11 RX2 (rmd 0)) (Z : ZX E (some .long)) (hy : y.1 ≤ (eS E).heap.size)  {σ : ST}   (n : Nat) : ∀ (v4 : Int64) (v6 : Int64) (v8 : Int32), WW y l E 11 (fun a => QM y E (xq σ a)) 9 [(4, .long v4), (6, .long v6), (8, .int v8)] [] σ (T_X2_commonDivisor_L9 σ n v4 v6 v8) := by
  induction n with
  | zero => intros; exact r_none rfl
  | succ n ih =>
    intro v4 v6 v8
    unfold T_X2_commonDivisor_L9
    refine r_iload (pc := 9) X dX2_commonDivisor_9 2 rfl ?_
    refine r_bipush (pc := 11) X dX2_commonDivisor_11 kb_100 ?_
    refine r_icmp_ge (pc := 13) (tgt := 44) X dX2_commonDivisor_13 (by decide) ?_ ?_
    · refine r_lload (pc := 44) X dX2_commonDivisor_44 0 rfl ?_
      exact r_lret (pc := 46) X Z dX2_commonDivisor_46 rfl
    · refine r_lload (pc := 16) X dX2_commonDivisor_16 1 rfl ?_
      refine r_lconst (pc := 18) X dX2_commonDivisor_18 (by decide : Int64.ofNat _ = 0) ?_
      refine r_lcmp (pc := 19) X dX2_commonDivisor_19 ?_
      refine r_if_eq (pc := 20) (tgt := 44) X dX2_commonDivisor_20 (by decide) ?_ ?_
      · refine r_lload (pc := 44) X dX2_commonDivisor_44 0 rfl ?_
        exact r_lret (pc := 46) X Z dX2_commonDivisor_46 rfl
      · refine r_lload (pc := 23) X dX2_commonDivisor_23 0 rfl ?_
        refine r_lload (pc := 25) X dX2_commonDivisor_25 1 rfl ?_
        refine r_lremz (pc := 27) X dX2_commonDivisor_27 ?_
        refine r_vL (fun x1 => ?_)
        refine r_lstore (pc := 28) (lv' := [(9, .long _), (4, .long _), (6, .long _), (8, .int _)]) X dX2_commonDivisor_28 (by decide) rfl ?_
        refine r_lload (pc := 30) X dX2_commonDivisor_30 2 rfl ?_
        refine r_lstore (pc := 32) (lv' := [(4, .long _), (9, .long _), (6, .long _), (8, .int _)]) X dX2_commonDivisor_32 (by decide) rfl ?_
        refine r_lload (pc := 34) X dX2_commonDivisor_34 1 rfl ?_
        refine r_lstore (pc := 36) (lv' := [(6, .long _), (4, .long _), (9, .long _), (8, .int _)]) X dX2_commonDivisor_36 (by decide) rfl ?_
        refine r_iinc (pc := 38) (lv' := [(6, .long _), (4, .long _), (9, .long _)]) X dX2_commonDivisor_38 3 rfl (congrArg (fun z => v8 + z) kc_1) (by decide) rfl (fun x2 => ?_)
        refine r_goto (pc := 41) (tgt := 9) X dX2_commonDivisor_41 (by decide) ?_
        refine r_sub [2, 1, 0] rfl ?_
        exact ih v6 x1 x2

set_option maxRecDepth 100000 in
theorem m_X2_commonDivisor {y : LY} {l : Launch}  {a0 : Int64} {a1 : Int64} {σ : ST} {a : Int64} (h : T_X2_commonDivisor σ a0 a1 = some a) : MU y l yX2_commonDivisor cX2_commonDivisor 11 (some .long) (rmd 0) [.long a0, .long a1] σ (xq σ a) := by
  refine MU.of (φ := xq σ) h (by decide +kernel) rfl (fun E X Z hy => ?_)
  have X : CX y l E cX2_commonDivisor 11 RX2 (rmd 0) := X
  show WW y l E 11 _ 0 [(0, .long a0), (2, .long a1)] [] σ (T_X2_commonDivisor σ a0 a1)
  unfold T_X2_commonDivisor
  refine r_lload_n (pc := 0) X dX2_commonDivisor_0 0 rfl rfl ?_
  refine r_lstore (pc := 1) (lv' := [(4, .long _), (0, .long _), (2, .long _)]) X dX2_commonDivisor_1 (by decide) rfl ?_
  refine r_lload_n (pc := 3) X dX2_commonDivisor_3 2 rfl rfl ?_
  refine r_lstore (pc := 4) (lv' := [(6, .long _), (4, .long _), (0, .long _), (2, .long _)]) X dX2_commonDivisor_4 (by decide) rfl ?_
  refine r_iconst (pc := 6) X dX2_commonDivisor_6 kc_0 ?_
  refine r_istore (pc := 7) (lv' := [(8, .int _), (6, .long _), (4, .long _), (0, .long _), (2, .long _)]) X dX2_commonDivisor_7 (by decide) rfl ?_
  refine r_sub [2, 1, 0] rfl ?_
  exact s_X2_commonDivisor_L9 X Z hy FU a0 a1 0

set_option maxRecDepth 100000 in
theorem s_X2_sleep_L62 {y : LY} {l : Launch} {E : ET} (X : CX y l E cX2_sleep 14 RX2 (rmd 6)) (Z : ZX E (some .long)) (hy : y.1 ≤ (eS E).heap.size)     (n : Nat) : ∀ (v1 : Int32) (v2 : Int32) (v3 : Int32) (v4 : Int32) (v5 : Int32) (v7 : Int64) (v9 : Int64) (v11 : Int32) (σ : ST), WW y l E 14 (fun a => QM y E (xJ a)) 62 [(0, .ref (ad y 0)), (1, .int v1), (2, .int v2), (3, .int v3), (4, .int v4), (5, .int v5), (7, .long v7), (9, .long v9), (11, .int v11)] [] σ (T_X2_sleep_L62  n v1 v2 v3 v4 v5 v7 v9 v11 σ) := by
  induction n with
  | zero => intros; exact r_none rfl
  | succ n ih =>
    intro v1 v2 v3 v4 v5 v7 v9 v11 σ
    unfold T_X2_sleep_L62
    refine r_iload (pc := 62) X dX2_sleep_62 8 rfl ?_
    refine r_iconst (pc := 64) X dX2_sleep_64 kc_1 ?_
    refine r_iload_n (pc := 65) X dX2_sleep_65 3 rfl rfl ?_
    refine r_ishl (pc := 66) X dX2_sleep_66 rfl ?_
    refine r_icmp_ge (pc := 67) (tgt := 108) X dX2_sleep_67 (by decide) ?_ ?_
    · refine r_lload (pc := 108) X dX2_sleep_108 7 rfl ?_
      refine r_lload (pc := 110) X dX2_sleep_110 6 rfl ?_
      refine r_callsq (pc := 112) X dX2_sleep_112 cf_X2_commonDivisor ml_X2_320 (rf rfl rfl) hy (fun b hb => m_X2_commonDivisor hb) rfl rfl (Nat.le_of_ble_eq_true rfl) (fun x1 => ?_)
      refine r_lstore (pc := 115) (lv' := [(11, .long _), (0, .ref _), (1, .int _), (2, .int _), (3, .int _), (4, .int _), (5, .int _), (7, .long _), (9, .long _)]) X dX2_sleep_115 (by decide) rfl ?_
      refine r_lload (pc := 117) X dX2_sleep_117 0 rfl ?_
      refine r_lconst (pc := 119) X dX2_sleep_119 (by decide : Int64.ofNat _ = 1) ?_
      refine r_lcmp (pc := 120) X dX2_sleep_120 ?_
      refine r_if_ge (pc := 121) (tgt := 128) X dX2_sleep_121 (by decide) ?_ ?_
      · refine r_iload (pc := 128) X dX2_sleep_128 6 rfl ?_
        refine r_if_ne (pc := 130) (tgt := 141) X dX2_sleep_130 (by decide) ?_ ?_
        · refine r_lload (pc := 141) X dX2_sleep_141 7 rfl ?_
          refine r_lload (pc := 143) X dX2_sleep_143 0 rfl ?_
          refine r_ldivz (pc := 145) X dX2_sleep_145 ?_
          exact r_lret (pc := 146) X Z dX2_sleep_146 rfl
        · refine r_lload (pc := 133) X dX2_sleep_133 8 rfl ?_
          refine r_lload (pc := 135) X dX2_sleep_135 0 rfl ?_
          refine r_ldivz (pc := 137) X dX2_sleep_137 ?_
          refine r_goto (pc := 138) (tgt := 146) X dX2_sleep_138 (by decide) ?_
          exact r_lret (pc := 146) X Z dX2_sleep_146 rfl
      · refine r_ldc2 (pc := 124) X dX2_sleep_124 lc_X2_324 ?_
        exact r_lret (pc := 127) X Z dX2_sleep_127 rfl
    · refine r_aload_n (pc := 70) X dX2_sleep_70 0 rfl rfl ?_
      refine r_iload_n (pc := 71) X dX2_sleep_71 1 rfl rfl ?_
      refine r_iload_n (pc := 72) X dX2_sleep_72 3 rfl rfl ?_
      refine r_iload (pc := 73) X dX2_sleep_73 4 rfl ?_
      refine r_iload (pc := 75) X dX2_sleep_75 8 rfl ?_
      refine r_callvJ (pc := 77) X dX2_sleep_77 cf_X2_walkAsleep ml_X2_316 (rf rfl rfl) hy oc_0.1 hc_2 (fun b hb => m_X2_walkAsleep hb) rfl rfl (Nat.le_of_ble_eq_true rfl) (fun x3 σ4 => ?_)
      refine r_lstore (pc := 80) (lv' := [(12, .long _), (0, .ref _), (1, .int _), (2, .int _), (3, .int _), (4, .int _), (5, .int _), (7, .long _), (9, .long _), (11, .int _)]) X dX2_sleep_80 (by decide) rfl ?_
      refine r_aload_n (pc := 82) X dX2_sleep_82 1 rfl rfl ?_
      refine r_geto (pc := 83) 2 X dX2_sleep_83 fl_X2_16 rfl (by decide) ?_
      refine r_geta (pc := 86) X dX2_sleep_86 fl_X2_144 oc_2 (by decide) ?_
      refine r_iload_n (pc := 89) X dX2_sleep_89 2 rfl rfl ?_
      refine r_iald (pc := 90) X dX2_sleep_90 ar_2_10 (fun x5 => ?_)
      refine r_iload_n (pc := 91) X dX2_sleep_91 3 rfl rfl ?_
      refine r_icmp_ne (pc := 92) (tgt := 102) X dX2_sleep_92 (by decide) ?_ ?_
      · refine r_iinc (pc := 102) (lv' := [(12, .long _), (0, .ref _), (1, .int _), (2, .int _), (3, .int _), (4, .int _), (5, .int _), (7, .long _), (9, .long _)]) X dX2_sleep_102 9 rfl (congrArg (fun z => v11 + z) kc_1) (by decide) rfl (fun x6 => ?_)
        refine r_goto (pc := 105) (tgt := 62) X dX2_sleep_105 (by decide) ?_
        refine r_sub [2, 3, 4, 5, 6, 7, 8, 9, 0] rfl ?_
        exact ih v1 v2 v3 v4 v5 v7 v9 x6 σ4
      · refine r_lload (pc := 95) X dX2_sleep_95 8 rfl ?_
        refine r_lload (pc := 97) X dX2_sleep_97 0 rfl ?_
        refine r_ladd (pc := 99) X dX2_sleep_99 ?_
        refine r_vL (fun x7 => ?_)
        refine r_lstore (pc := 100) (lv' := [(9, .long _), (12, .long _), (0, .ref _), (1, .int _), (2, .int _), (3, .int _), (4, .int _), (5, .int _), (7, .long _), (11, .int _)]) X dX2_sleep_100 (by decide) rfl ?_
        refine r_iinc (pc := 102) (lv' := [(9, .long _), (12, .long _), (0, .ref _), (1, .int _), (2, .int _), (3, .int _), (4, .int _), (5, .int _), (7, .long _)]) X dX2_sleep_102 9 rfl (congrArg (fun z => v11 + z) kc_1) (by decide) rfl (fun x8 => ?_)
        refine r_goto (pc := 105) (tgt := 62) X dX2_sleep_105 (by decide) ?_
        refine r_sub [3, 4, 5, 6, 7, 8, 9, 1, 0] rfl ?_
        exact ih v1 v2 v3 v4 v5 v7 x7 x8 σ4

set_option maxRecDepth 100000 in
theorem s_X2_sleep_L36 {y : LY} {l : Launch} {E : ET} (X : CX y l E cX2_sleep 14 RX2 (rmd 6)) (Z : ZX E (some .long)) (hy : y.1 ≤ (eS E).heap.size)     (n : Nat) : ∀ (v1 : Int32) (v2 : Int32) (v3 : Int32) (v4 : Int32) (v5 : Int32) (v7 : Int64) (v9 : Int32) (σ : ST), WW y l E 14 (fun a => QM y E (xJ a)) 36 [(0, .ref (ad y 0)), (1, .int v1), (2, .int v2), (3, .int v3), (4, .int v4), (5, .int v5), (7, .long v7), (9, .int v9)] [] σ (T_X2_sleep_L36  n v1 v2 v3 v4 v5 v7 v9 σ) := by
  induction n with
  | zero => intros; exact r_none rfl
  | succ n ih =>
    intro v1 v2 v3 v4 v5 v7 v9 σ
    unfold T_X2_sleep_L36
    refine r_iload (pc := 36) X dX2_sleep_36 7 rfl ?_
    refine r_iload_n (pc := 38) X dX2_sleep_38 3 rfl rfl ?_
    refine r_icmp_ge (pc := 39) (tgt := 56) X dX2_sleep_39 (by decide) ?_ ?_
    · refine r_lconst (pc := 56) X dX2_sleep_56 (by decide : Int64.ofNat _ = 0) ?_
      refine r_lstore (pc := 57) (lv' := [(9, .long _), (0, .ref _), (1, .int _), (2, .int _), (3, .int _), (4, .int _), (5, .int _), (7, .long _)]) X dX2_sleep_57 (by decide) rfl ?_
      refine r_iconst (pc := 59) X dX2_sleep_59 kc_0 ?_
      refine r_istore (pc := 60) (lv' := [(11, .int _), (9, .long _), (0, .ref _), (1, .int _), (2, .int _), (3, .int _), (4, .int _), (5, .int _), (7, .long _)]) X dX2_sleep_60 (by decide) rfl ?_
      refine r_sub [2, 3, 4, 5, 6, 7, 8, 1, 0] rfl ?_
      exact s_X2_sleep_L62 X Z hy FU v1 v2 v3 v4 v5 v7 0 0 σ
    · refine r_lload (pc := 42) X dX2_sleep_42 6 rfl ?_
      refine r_iload (pc := 44) X dX2_sleep_44 4 rfl ?_
      refine r_i2l (pc := 46) X dX2_sleep_46 ?_
      refine r_lmul (pc := 47) X dX2_sleep_47 ?_
      refine r_vL (fun x1 => ?_)
      refine r_lstore (pc := 48) (lv' := [(7, .long _), (0, .ref _), (1, .int _), (2, .int _), (3, .int _), (4, .int _), (5, .int _), (9, .int _)]) X dX2_sleep_48 (by decide) rfl ?_
      refine r_iinc (pc := 50) (lv' := [(7, .long _), (0, .ref _), (1, .int _), (2, .int _), (3, .int _), (4, .int _), (5, .int _)]) X dX2_sleep_50 7 rfl (congrArg (fun z => v9 + z) kc_1) (by decide) rfl (fun x2 => ?_)
      refine r_goto (pc := 53) (tgt := 36) X dX2_sleep_53 (by decide) ?_
      refine r_sub [2, 3, 4, 5, 6, 7, 1, 0] rfl ?_
      exact ih v1 v2 v3 v4 v5 x1 x2 σ

set_option maxRecDepth 100000 in
theorem m_X2_sleep {y : LY} {l : Launch}  {a0 : Int32} {a1 : Int32} {a2 : Int32} {a3 : Int32} {a4 : Int32} {σ : ST} {a : (Int64 × ST)} (h : T_X2_sleep a0 a1 a2 a3 a4 σ = some a) : MU y l yX2_sleep cX2_sleep 14 (some .long) (rmd 6) [.ref (ad y 0), .int a0, .int a1, .int a2, .int a3, .int a4] σ (xJ a) := by
  refine MU.of (φ := xJ) h (by decide +kernel) rfl (fun E X Z hy => ?_)
  have X : CX y l E cX2_sleep 14 RX2 (rmd 6) := X
  show WW y l E 14 _ 0 [(0, .ref (ad y 0)), (1, .int a0), (2, .int a1), (3, .int a2), (4, .int a3), (5, .int a4)] [] σ (T_X2_sleep a0 a1 a2 a3 a4 σ)
  unfold T_X2_sleep
  refine r_aload_n (pc := 0) X dX2_sleep_0 0 rfl rfl ?_
  refine r_iload_n (pc := 1) X dX2_sleep_1 1 rfl rfl ?_
  refine r_iload_n (pc := 2) X dX2_sleep_2 2 rfl rfl ?_
  refine r_iload_n (pc := 3) X dX2_sleep_3 3 rfl rfl ?_
  refine r_iload (pc := 4) X dX2_sleep_4 4 rfl ?_
  refine r_iload (pc := 6) X dX2_sleep_6 5 rfl ?_
  refine r_callvp (pc := 8) X dX2_sleep_8 cf_X2_wrongSleep ml_X2_310 (rf rfl rfl) hy oc_0.1 hc_2 (fun b hb => m_X2_wrongSleep hb) rfl rfl (Nat.le_of_ble_eq_true rfl) (fun x1 => ?_)
  refine r_istore (pc := 11) (lv' := [(6, .int _), (0, .ref _), (1, .int _), (2, .int _), (3, .int _), (4, .int _), (5, .int _)]) X dX2_sleep_11 (by decide) rfl ?_
  refine r_iload (pc := 13) X dX2_sleep_13 0 rfl ?_
  refine r_if_eq (pc := 15) (tgt := 30) X dX2_sleep_15 (by decide) ?_ ?_
  · refine r_lconst (pc := 30) X dX2_sleep_30 (by decide : Int64.ofNat _ = 1) ?_
    refine r_lstore (pc := 31) (lv' := [(7, .long _), (6, .int _), (0, .ref _), (1, .int _), (2, .int _), (3, .int _), (4, .int _), (5, .int _)]) X dX2_sleep_31 (by decide) rfl ?_
    refine r_iconst (pc := 33) X dX2_sleep_33 kc_0 ?_
    refine r_istore (pc := 34) (lv' := [(9, .int _), (7, .long _), (6, .int _), (0, .ref _), (1, .int _), (2, .int _), (3, .int _), (4, .int _), (5, .int _)]) X dX2_sleep_34 (by decide) rfl ?_
    refine r_sub [3, 4, 5, 6, 7, 8, 1, 0] rfl ?_
    exact s_X2_sleep_L36 X Z hy FU a0 a1 a2 a3 a4 1 0 σ
  · refine r_ldc2 (pc := 18) X dX2_sleep_18 lc_X2_314 ?_
    refine r_aload_n (pc := 21) X dX2_sleep_21 1 rfl rfl ?_
    refine r_iload (pc := 22) X dX2_sleep_22 0 rfl ?_
    refine r_callvI (pc := 24) X dX2_sleep_24 cf_X2_refuse ml_X2_60 (rf rfl rfl) hy oc_0.1 hc_2 (fun b hb => m_X2_refuse hb) rfl rfl (Nat.le_of_ble_eq_true rfl) (fun x3 σ4 => ?_)
    refine r_i2l (pc := 27) X dX2_sleep_27 ?_
    refine r_lsub (pc := 28) X dX2_sleep_28 ?_
    exact r_lret (pc := 29) X Z dX2_sleep_29 rfl

