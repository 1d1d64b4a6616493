set_option maxHeartbeats 4000000 in
theorem n_X10 {G : KG} {d : Nat} {sh : KSf} {rf c : KMem} {Q : Option AV → KSt → Prop} (h0 : sh 0 = (18, 20)) (hr0 : ∀ j, rf 0 j = -1) (hc0 : ∀ j, c 0 j = kdv 8 j) (k : ∀ sh' rf' c', (sh' 0 = (18, 20)) → (∀ j, rf' 0 j = kRow [(19, 557), (18, 556), (17, 555), (16, 554), (15, 553), (14, 533), (13, 528), (12, 214), (11, 170), (10, 48), (9, 33), (6, 18), (5, 3), (2, 2), (0, 1)] (fun _ => -1) j) → (∀ j, c' 0 j = kRow [(8, 1), (7, 0), (4, 1), (3, 0), (1, 0)] (kdv 8) j) → (sh' 1 = (1, 140)) → (sh' 2 = (1, 120)) → (kLet (0, sh', rf') 3) → (∀ j, c' 17 j = 0) → (kLet (0, sh', rf') 18) → (∀ j, c' 32 j = 0) → (kLet (0, sh', rf') 33) → (∀ j, c' 47 j = 0) → (sh' 48 = (14, 3)) → (∀ j, rf' 48 j = kRow [(0, 49)] (fun _ => -1) j) → (∀ j, c' 48 j = kRow [(2, 0), (1, 0)] (kdv 4) j) → (sh' 49 = (6, 8)) → (∀ x : Int, 0 ≤ x → x < 8 → rf' 49 x = 50 + 15 * x ∧ kLet (0, sh', rf') (50 + 15 * x)) → (sh' 170 = (16, 12)) → (∀ j, rf' 170 j = kRow [(6, 212), (5, 211), (4, 210), (3, 202), (2, 194), (1, 186), (0, 171)] (fun _ => -1) j) → (∀ j, c' 170 j = kRow [(11, 0), (10, 0), (9, 0), (8, 0), (7, 213)] (kdv 6) j) → (kLet (0, sh', rf') 171) → (∀ j, c' 185 j = 0) → (kRwA sh' rf' 186 7) → (kRwA sh' rf' 194 7) → (kRwA sh' rf' 202 7) → (sh' 210 = (2, 16)) → (sh' 211 = (2, 16)) → (sh' 212 = (2, 16)) → (sh' 213 = (1, 0)) → (sh' 214 = (12, 7)) → (∀ j, rf' 214 j = kRow [(6, 527), (5, 526), (4, 525), (3, 524), (2, 222), (0, 215)] (fun _ => -1) j) → (∀ j, c' 214 j = kRow [(1, 0)] (kdv 2) j) → (kRwA sh' rf' 215 6) → (sh' 222 = (15, 2)) → (∀ j, rf' 222 j = kRow [(0, 223)] (fun _ => -1) j) → (∀ j, c' 222 j = kRow [(1, 0)] (kdv 5) j) → (kRwA sh' rf' 223 300) → (sh' 524 = (2, 16)) → (sh' 525 = (2, 16)) → (sh' 526 = (2, 16)) → (sh' 527 = (2, 16)) → (sh' 528 = (13, 4)) → (∀ j, rf' 528 j = kRow [(3, 532), (2, 531), (1, 530), (0, 529)] (fun _ => -1) j) → (sh' 529 = (2, 16)) → (sh' 530 = (2, 16)) → (sh' 531 = (2, 16)) → (sh' 532 = (2, 16)) → (kEq (c' 529) farP) → (sh' 533 = (11, 7)) → (∀ j, rf' 533 j = kRow [(6, 552), (5, 551), (4, 550), (3, 549), (2, 548), (1, 547), (0, 534)] (fun _ => -1) j) → (kRwA sh' rf' 534 12) → (sh' 547 = (1, 12)) → (sh' 548 = (1, 12)) → (sh' 549 = (2, 16)) → (sh' 550 = (2, 16)) → (sh' 551 = (2, 16)) → (sh' 552 = (2, 16)) → (kEq (c' 549) farP) → (sh' 553 = (17, 5)) → (sh' 554 = (17, 5)) → (sh' 555 = (2, 16)) → (sh' 556 = (2, 16)) → (sh' 557 = (2, 16)) → kBl 0 sh rf c sh' rf' c' → Q none ((558, sh', rf'), c')) : kCall G kM_X10_init (d + 3) 557 9004 [kA 0] ((1, sh, rf), c) Q := by
  refine kMet (by decide) rfl (Nat.le_of_ble_eq_true rfl) ?_
  show kWP G kM_X10_init (d + 3) 557 9004 0 [some (kA 0)] [] ((1, sh, rf), c) Q
  refine kw_aload_n dX10_init_0 rfl ?_
  refine kw_objinit dX10_init_1 wl_X10_1 w_oi w_oc h0 (by decide) (by decide) ?_
  refine kw_aload_n dX10_init_4 rfl ?_
  refine kw_sipush dX10_init_5 (by decide) ?_
  refine kn_newI (bc := 556) (bs := 8864) (A := 1) (N' := 2) 140 rfl rfl rfl dX10_init_8 (by decide) (fun sh1 rf1 c1 n1 => ?_)
  have hs1 : sh1 0 = (18, 20) := (n1.2.2.2 0 (by decide)).1.trans h0
  have hr2 : ∀ j, rf1 0 j = kRow [] (fun _ => -1) j := fun j => (congrFun (n1.2.2.2 0 (by decide)).2.1 j).trans (hr0 j)
  have hc3 : ∀ j, c1 0 j = kRow [] (kdv 8) j := fun j => (congrFun (n1.2.2.2 0 (by decide)).2.2 j).trans (hc0 j)
  refine kn_putR (kz := 0) rfl fo_X10_0 dX10_init_10 wf_X10_9 hs1 rfl rfl (fun rf2 p2 => ?_)
  have hr4 : ∀ j, rf2 0 j = kRow [(0, 1)] (fun _ => -1) j := fun j => (p2.2 j).trans (by rw [hr2 j]; rfl)
  refine kw_aload_n dX10_init_13 rfl ?_
  refine kw_iconst dX10_init_14 ?_
  refine kn_putI (kz := 1) rfl fp_X10_1 dX10_init_15 wf_X10_13 hs1 (fun c3 p3 => ?_)
  have hc5 : ∀ j, c3 0 j = kRow [(1, 0)] (kdv 8) j := fun j => (p3.2 j).trans (by rw [hc3 j]; rfl)
  refine kw_aload_n dX10_init_18 rfl ?_
  refine kw_bipush dX10_init_19 (by decide) ?_
  refine kn_newI (bc := 555) (bs := 8744) (A := 2) (N' := 3) 120 rfl rfl rfl dX10_init_21 (by decide) (fun sh4 rf4 c4 n4 => ?_)
  have hs6 : sh4 0 = (18, 20) := (n4.2.2.2 0 (by decide)).1.trans hs1
  have hr7 : ∀ j, rf4 0 j = kRow [(0, 1)] (fun _ => -1) j := fun j => (congrFun (n4.2.2.2 0 (by decide)).2.1 j).trans (hr4 j)
  have hc8 : ∀ j, c4 0 j = kRow [(1, 0)] (kdv 8) j := fun j => (congrFun (n4.2.2.2 0 (by decide)).2.2 j).trans (hc5 j)
  refine kn_putR (kz := 2) rfl fo_X10_2 dX10_init_23 wf_X10_17 hs6 rfl rfl (fun rf5 p5 => ?_)
  have hr9 : ∀ j, rf5 0 j = kRow [(2, 2), (0, 1)] (fun _ => -1) j := fun j => (p5.2 j).trans (by rw [hr7 j]; rfl)
  refine kw_aload_n dX10_init_26 rfl ?_
  refine kw_iconst dX10_init_27 ?_
  refine kn_putI (kz := 3) rfl fp_X10_3 dX10_init_28 wf_X10_20 hs6 (fun c6 p6 => ?_)
  have hc10 : ∀ j, c6 0 j = kRow [(3, 0), (1, 0)] (kdv 8) j := fun j => (p6.2 j).trans (by rw [hc8 j]; rfl)
  refine kw_aload_n dX10_init_31 rfl ?_
  refine kw_iconst dX10_init_32 ?_
  refine kn_putI (kz := 4) rfl fp_X10_4 dX10_init_33 wf_X10_23 hs6 (fun c7 p7 => ?_)
  have hc11 : ∀ j, c7 0 j = kRow [(4, 1), (3, 0), (1, 0)] (kdv 8) j := fun j => (p7.2 j).trans (by rw [hc10 j]; rfl)
  refine kw_aload_n dX10_init_36 rfl ?_
  refine kn_new (bc := 554) (bs := 8742) (A := 3) (N' := 4) rfl rfl kin_X1 tyX1 tyX1_ok rfl dX10_init_37 wn_X10_26 wins_X1 wi_X1 hdv_X1 (fun ah8 af8 ac8 m8 => ?_)
  have hs12 : ah8 0 = (18, 20) := (m8.2.2.2 0 (by decide)).1.trans hs6
  have hr13 : ∀ j, af8 0 j = kRow [(2, 2), (0, 1)] (fun _ => -1) j := fun j => (congrFun (m8.2.2.2 0 (by decide)).2.1 j).trans (hr9 j)
  have hc14 : ∀ j, ac8 0 j = kRow [(4, 1), (3, 0), (1, 0)] (kdv 8) j := fun j => (congrFun (m8.2.2.2 0 (by decide)).2.2 j).trans (hc11 j)
  refine kw_dup dX10_init_40 rfl ?_
  refine kw_callIN (av := []) (bc2 := 14) (bs2 := 216) (bc := 540) (bs := 8526) m8.1 (by decide) m_X1_init dX10_init_41 wl_X10_28 rfl (Nat.le_of_ble_eq_true rfl) (n_X1 (N := 4) (N' := 18) (A := 3) rfl rfl m8.1 (fun sh8 rf8 c8 f8_0 f8_1 b8 => ?_))
  show kWP G kM_X10_init _ 540 8526 (41 + 3) _ _ ((18, sh8, rf8), c8) Q
  have hs15 : sh8 0 = (18, 20) := (b8 0 (by decide)).1.trans hs12
  have hr16 : ∀ j, rf8 0 j = kRow [(2, 2), (0, 1)] (fun _ => -1) j := fun j => (congrFun (b8 0 (by decide)).2.1 j).trans (hr13 j)
  have hc17 : ∀ j, c8 0 j = kRow [(4, 1), (3, 0), (1, 0)] (kdv 8) j := fun j => (congrFun (b8 0 (by decide)).2.2 j).trans (hc14 j)
  refine kn_putR (kz := 5) rfl fo_X10_5 dX10_init_44 wf_X10_29 hs15 rfl rfl (fun rf9 p9 => ?_)
  have hr18 : ∀ j, rf9 0 j = kRow [(5, 3), (2, 2), (0, 1)] (fun _ => -1) j := fun j => (p9.2 j).trans (by rw [hr16 j]; rfl)
  refine kw_aload_n dX10_init_47 rfl ?_
  refine kn_new (bc := 539) (bs := 8524) (A := 18) (N' := 19) rfl rfl kin_X1 tyX1 tyX1_ok rfl dX10_init_48 wn_X10_26 wins_X1 wi_X1 hdv_X1 (fun ah10 af10 ac10 m10 => ?_)
  have hs19 : ah10 0 = (18, 20) := (m10.2.2.2 0 (by decide)).1.trans hs15
  have hr20 : ∀ j, af10 0 j = kRow [(5, 3), (2, 2), (0, 1)] (fun _ => -1) j := fun j => (congrFun (m10.2.2.2 0 (by decide)).2.1 j).trans (hr18 j)
  have hc21 : ∀ j, ac10 0 j = kRow [(4, 1), (3, 0), (1, 0)] (kdv 8) j := fun j => (congrFun (m10.2.2.2 0 (by decide)).2.2 j).trans (hc17 j)
  refine kw_dup dX10_init_51 rfl ?_
  refine kw_callIN (av := []) (bc2 := 14) (bs2 := 216) (bc := 525) (bs := 8308) m10.1 (by decide) m_X1_init dX10_init_52 wl_X10_28 rfl (Nat.le_of_ble_eq_true rfl) (n_X1 (N := 19) (N' := 33) (A := 18) rfl rfl m10.1 (fun sh10 rf10 c10 f10_0 f10_1 b10 => ?_))
  show kWP G kM_X10_init _ 525 8308 (52 + 3) _ _ ((33, sh10, rf10), c10) Q
  have hs22 : sh10 0 = (18, 20) := (b10 0 (by decide)).1.trans hs19
  have hr23 : ∀ j, rf10 0 j = kRow [(5, 3), (2, 2), (0, 1)] (fun _ => -1) j := fun j => (congrFun (b10 0 (by decide)).2.1 j).trans (hr20 j)
  have hc24 : ∀ j, c10 0 j = kRow [(4, 1), (3, 0), (1, 0)] (kdv 8) j := fun j => (congrFun (b10 0 (by decide)).2.2 j).trans (hc21 j)
  refine kn_putR (kz := 6) rfl fo_X10_6 dX10_init_55 wf_X10_33 hs22 rfl rfl (fun rf11 p11 => ?_)
  have hr25 : ∀ j, rf11 0 j = kRow [(6, 18), (5, 3), (2, 2), (0, 1)] (fun _ => -1) j := fun j => (p11.2 j).trans (by rw [hr23 j]; rfl)
  refine kw_aload_n dX10_init_58 rfl ?_
  refine kw_iconst dX10_init_59 ?_
  refine kn_putZ (kz := 7) rfl fp_X10_7 dX10_init_60 wf_X10_36 hs22 (Or.inl rfl) (fun c12 p12 => ?_)
  have hc26 : ∀ j, c12 0 j = kRow [(7, 0), (4, 1), (3, 0), (1, 0)] (kdv 8) j := fun j => (p12.2 j).trans (by rw [hc24 j]; rfl)
  refine kw_aload_n dX10_init_63 rfl ?_
  refine kw_iconst dX10_init_64 ?_
  refine kn_putI (kz := 8) rfl fp_X10_8 dX10_init_65 wf_X10_40 hs22 (fun c13 p13 => ?_)
  have hc27 : ∀ j, c13 0 j = kRow [(8, 1), (7, 0), (4, 1), (3, 0), (1, 0)] (kdv 8) j := fun j => (p13.2 j).trans (by rw [hc26 j]; rfl)
  refine kw_aload_n dX10_init_68 rfl ?_
  refine kn_new (bc := 524) (bs := 8306) (A := 33) (N' := 34) rfl rfl kin_X1 tyX1 tyX1_ok rfl dX10_init_69 wn_X10_26 wins_X1 wi_X1 hdv_X1 (fun ah14 af14 ac14 m14 => ?_)
  have hs28 : ah14 0 = (18, 20) := (m14.2.2.2 0 (by decide)).1.trans hs22
  have hr29 : ∀ j, af14 0 j = kRow [(6, 18), (5, 3), (2, 2), (0, 1)] (fun _ => -1) j := fun j => (congrFun (m14.2.2.2 0 (by decide)).2.1 j).trans (hr25 j)
  have hc30 : ∀ j, ac14 0 j = kRow [(8, 1), (7, 0), (4, 1), (3, 0), (1, 0)] (kdv 8) j := fun j => (congrFun (m14.2.2.2 0 (by decide)).2.2 j).trans (hc27 j)
  refine kw_dup dX10_init_72 rfl ?_
  refine kw_callIN (av := []) (bc2 := 14) (bs2 := 216) (bc := 510) (bs := 8090) m14.1 (by decide) m_X1_init dX10_init_73 wl_X10_28 rfl (Nat.le_of_ble_eq_true rfl) (n_X1 (N := 34) (N' := 48) (A := 33) rfl rfl m14.1 (fun sh14 rf14 c14 f14_0 f14_1 b14 => ?_))
  show kWP G kM_X10_init _ 510 8090 (73 + 3) _ _ ((48, sh14, rf14), c14) Q
  have hs31 : sh14 0 = (18, 20) := (b14 0 (by decide)).1.trans hs28
  have hr32 : ∀ j, rf14 0 j = kRow [(6, 18), (5, 3), (2, 2), (0, 1)] (fun _ => -1) j := fun j => (congrFun (b14 0 (by decide)).2.1 j).trans (hr29 j)
  have hc33 : ∀ j, c14 0 j = kRow [(8, 1), (7, 0), (4, 1), (3, 0), (1, 0)] (kdv 8) j := fun j => (congrFun (b14 0 (by decide)).2.2 j).trans (hc30 j)
  refine kn_putR (kz := 9) rfl fo_X10_9 dX10_init_76 wf_X10_43 hs31 rfl rfl (fun rf15 p15 => ?_)
  have hr34 : ∀ j, rf15 0 j = kRow [(9, 33), (6, 18), (5, 3), (2, 2), (0, 1)] (fun _ => -1) j := fun j => (p15.2 j).trans (by rw [hr32 j]; rfl)
  refine kw_aload_n dX10_init_79 rfl ?_
  refine kn_new (bc := 509) (bs := 8087) (A := 48) (N' := 49) rfl rfl kin_X5 tyX5 tyX5_ok rfl dX10_init_80 wn_X10_46 wins_X5 wi_X5 hdv_X5 (fun ah16 af16 ac16 m16 => ?_)
  have hs35 : ah16 0 = (18, 20) := (m16.2.2.2 0 (by decide)).1.trans hs31
  have hr36 : ∀ j, af16 0 j = kRow [(9, 33), (6, 18), (5, 3), (2, 2), (0, 1)] (fun _ => -1) j := fun j => (congrFun (m16.2.2.2 0 (by decide)).2.1 j).trans (hr34 j)
  have hc37 : ∀ j, ac16 0 j = kRow [(8, 1), (7, 0), (4, 1), (3, 0), (1, 0)] (kdv 8) j := fun j => (congrFun (m16.2.2.2 0 (by decide)).2.2 j).trans (hc33 j)
  refine kw_dup dX10_init_83 rfl ?_
  refine kw_callI (av := []) (bc2 := 121) (bs2 := 1752) (bc := 388) (bs := 6335) m16.1 (by decide) m_X5_init dX10_init_84 wl_X10_48 rfl (Nat.le_of_ble_eq_true rfl) (n_X5 m16.1 m16.2.1 m16.2.2.1 (fun sh16 rf16 c16 f16_0 f16_1 f16_2 f16_3 f16_4 b16 => ?_))
  show kWP G kM_X10_init _ 388 6335 (84 + 3) _ _ ((170, sh16, rf16), c16) Q
  have hs38 : sh16 0 = (18, 20) := (b16 0 (by decide)).1.trans hs35
  have hr39 : ∀ j, rf16 0 j = kRow [(9, 33), (6, 18), (5, 3), (2, 2), (0, 1)] (fun _ => -1) j := fun j => (congrFun (b16 0 (by decide)).2.1 j).trans (hr36 j)
  have hc40 : ∀ j, c16 0 j = kRow [(8, 1), (7, 0), (4, 1), (3, 0), (1, 0)] (kdv 8) j := fun j => (congrFun (b16 0 (by decide)).2.2 j).trans (hc37 j)
  refine kn_putR (kz := 10) rfl fo_X10_10 dX10_init_87 wf_X10_49 hs38 rfl rfl (fun rf17 p17 => ?_)
  have hr41 : ∀ j, rf17 0 j = kRow [(10, 48), (9, 33), (6, 18), (5, 3), (2, 2), (0, 1)] (fun _ => -1) j := fun j => (p17.2 j).trans (by rw [hr39 j]; rfl)
  refine kw_aload_n dX10_init_90 rfl ?_
  refine kn_new (bc := 387) (bs := 6323) (A := 170) (N' := 171) rfl rfl kin_X7 tyX7 tyX7_ok rfl dX10_init_91 wn_X10_53 wins_X7 wi_X7 hdv_X7 (fun ah18 af18 ac18 m18 => ?_)
  have hs42 : ah18 0 = (18, 20) := (m18.2.2.2 0 (by decide)).1.trans hs38
  have hr43 : ∀ j, af18 0 j = kRow [(10, 48), (9, 33), (6, 18), (5, 3), (2, 2), (0, 1)] (fun _ => -1) j := fun j => (congrFun (m18.2.2.2 0 (by decide)).2.1 j).trans (hr41 j)
  have hc44 : ∀ j, ac18 0 j = kRow [(8, 1), (7, 0), (4, 1), (3, 0), (1, 0)] (kdv 8) j := fun j => (congrFun (m18.2.2.2 0 (by decide)).2.2 j).trans (hc40 j)
  refine kw_dup dX10_init_94 rfl ?_
  refine kw_callIN (av := []) (bc2 := 43) (bs2 := 623) (bc := 344) (bs := 5700) m18.1 (by decide) m_X7_init dX10_init_95 wl_X10_55 rfl (Nat.le_of_ble_eq_true rfl) (n_X7 m18.1 m18.2.1 m18.2.2.1 (fun sh18 rf18 c18 f18_0 f18_1 f18_2 f18_3 f18_4 f18_5 f18_6 f18_7 f18_8 f18_9 f18_10 f18_11 b18 => ?_))
  show kWP G kM_X10_init _ 344 5700 (95 + 3) _ _ ((214, sh18, rf18), c18) Q
  have hs45 : sh18 0 = (18, 20) := (b18 0 (by decide)).1.trans hs42
  have hr46 : ∀ j, rf18 0 j = kRow [(10, 48), (9, 33), (6, 18), (5, 3), (2, 2), (0, 1)] (fun _ => -1) j := fun j => (congrFun (b18 0 (by decide)).2.1 j).trans (hr43 j)
  have hc47 : ∀ j, c18 0 j = kRow [(8, 1), (7, 0), (4, 1), (3, 0), (1, 0)] (kdv 8) j := fun j => (congrFun (b18 0 (by decide)).2.2 j).trans (hc44 j)
  refine kn_putR (kz := 11) rfl fo_X10_11 dX10_init_98 wf_X10_56 hs45 rfl rfl (fun rf19 p19 => ?_)
  have hr48 : ∀ j, rf19 0 j = kRow [(11, 170), (10, 48), (9, 33), (6, 18), (5, 3), (2, 2), (0, 1)] (fun _ => -1) j := fun j => (p19.2 j).trans (by rw [hr46 j]; rfl)
  refine kw_aload_n dX10_init_101 rfl ?_
  refine kn_new (bc := 343) (bs := 5693) (A := 214) (N' := 215) rfl rfl kin_X3 tyX3 tyX3_ok rfl dX10_init_102 wn_X10_60 wins_X3 wi_X3 hdv_X3 (fun ah20 af20 ac20 m20 => ?_)
  have hs49 : ah20 0 = (18, 20) := (m20.2.2.2 0 (by decide)).1.trans hs45
  have hr50 : ∀ j, af20 0 j = kRow [(11, 170), (10, 48), (9, 33), (6, 18), (5, 3), (2, 2), (0, 1)] (fun _ => -1) j := fun j => (congrFun (m20.2.2.2 0 (by decide)).2.1 j).trans (hr48 j)
  have hc51 : ∀ j, ac20 0 j = kRow [(8, 1), (7, 0), (4, 1), (3, 0), (1, 0)] (kdv 8) j := fun j => (congrFun (m20.2.2.2 0 (by decide)).2.2 j).trans (hc47 j)
  refine kw_dup dX10_init_105 rfl ?_
  refine kw_callIN (av := []) (bc2 := 313) (bs2 := 5268) (bc := 30) (bs := 425) m20.1 (by decide) m_X3_init dX10_init_106 wl_X10_62 rfl (Nat.le_of_ble_eq_true rfl) (n_X3 m20.1 m20.2.1 m20.2.2.1 (fun sh20 rf20 c20 f20_0 f20_1 f20_2 f20_3 f20_4 f20_5 f20_6 f20_7 f20_8 f20_9 f20_10 f20_11 b20 => ?_))
  show kWP G kM_X10_init _ 30 425 (106 + 3) _ _ ((528, sh20, rf20), c20) Q
  have hs52 : sh20 0 = (18, 20) := (b20 0 (by decide)).1.trans hs49
  have hr53 : ∀ j, rf20 0 j = kRow [(11, 170), (10, 48), (9, 33), (6, 18), (5, 3), (2, 2), (0, 1)] (fun _ => -1) j := fun j => (congrFun (b20 0 (by decide)).2.1 j).trans (hr50 j)
  have hc54 : ∀ j, c20 0 j = kRow [(8, 1), (7, 0), (4, 1), (3, 0), (1, 0)] (kdv 8) j := fun j => (congrFun (b20 0 (by decide)).2.2 j).trans (hc51 j)
  refine kn_putR (kz := 12) rfl fo_X10_12 dX10_init_109 wf_X10_63 hs52 rfl rfl (fun rf21 p21 => ?_)
  have hr55 : ∀ j, rf21 0 j = kRow [(12, 214), (11, 170), (10, 48), (9, 33), (6, 18), (5, 3), (2, 2), (0, 1)] (fun _ => -1) j := fun j => (p21.2 j).trans (by rw [hr53 j]; rfl)
  refine kw_aload_n dX10_init_112 rfl ?_
  refine kn_new (bc := 29) (bs := 421) (A := 528) (N' := 529) rfl rfl kin_X4 tyX4 tyX4_ok rfl dX10_init_113 wn_X10_67 wins_X4 wi_X4 hdv_X4 (fun ah22 af22 ac22 m22 => ?_)
  have hs56 : ah22 0 = (18, 20) := (m22.2.2.2 0 (by decide)).1.trans hs52
  have hr57 : ∀ j, af22 0 j = kRow [(12, 214), (11, 170), (10, 48), (9, 33), (6, 18), (5, 3), (2, 2), (0, 1)] (fun _ => -1) j := fun j => (congrFun (m22.2.2.2 0 (by decide)).2.1 j).trans (hr55 j)
  have hc58 : ∀ j, ac22 0 j = kRow [(8, 1), (7, 0), (4, 1), (3, 0), (1, 0)] (kdv 8) j := fun j => (congrFun (m22.2.2.2 0 (by decide)).2.2 j).trans (hc54 j)
  refine kw_dup dX10_init_116 rfl ?_
  refine kw_callI (av := []) (bc2 := 4) (bs2 := 64) (bc := 25) (bs := 357) m22.1 (by decide) m_X4_init dX10_init_117 wl_X10_69 rfl (Nat.le_of_ble_eq_true rfl) (n_X4 m22.1 m22.2.1 m22.2.2.1 (fun sh22 rf22 c22 f22_0 f22_1 f22_2 f22_3 f22_4 f22_5 f22_6 b22 => ?_))
  show kWP G kM_X10_init _ 25 357 (117 + 3) _ _ ((533, sh22, rf22), c22) Q
  have hs59 : sh22 0 = (18, 20) := (b22 0 (by decide)).1.trans hs56
  have hr60 : ∀ j, rf22 0 j = kRow [(12, 214), (11, 170), (10, 48), (9, 33), (6, 18), (5, 3), (2, 2), (0, 1)] (fun _ => -1) j := fun j => (congrFun (b22 0 (by decide)).2.1 j).trans (hr57 j)
  have hc61 : ∀ j, c22 0 j = kRow [(8, 1), (7, 0), (4, 1), (3, 0), (1, 0)] (kdv 8) j := fun j => (congrFun (b22 0 (by decide)).2.2 j).trans (hc58 j)
  refine kn_putR (kz := 13) rfl fo_X10_13 dX10_init_120 wf_X10_70 hs59 rfl rfl (fun rf23 p23 => ?_)
  have hr62 : ∀ j, rf23 0 j = kRow [(13, 528), (12, 214), (11, 170), (10, 48), (9, 33), (6, 18), (5, 3), (2, 2), (0, 1)] (fun _ => -1) j := fun j => (p23.2 j).trans (by rw [hr60 j]; rfl)
  refine kw_aload_n dX10_init_123 rfl ?_
  refine kn_new (bc := 24) (bs := 350) (A := 533) (N' := 534) rfl rfl kin_X2 tyX2 tyX2_ok rfl dX10_init_124 wn_X10_74 wins_X2 wi_X2 hdv_X2 (fun ah24 af24 ac24 m24 => ?_)
  have hs63 : ah24 0 = (18, 20) := (m24.2.2.2 0 (by decide)).1.trans hs59
  have hr64 : ∀ j, af24 0 j = kRow [(13, 528), (12, 214), (11, 170), (10, 48), (9, 33), (6, 18), (5, 3), (2, 2), (0, 1)] (fun _ => -1) j := fun j => (congrFun (m24.2.2.2 0 (by decide)).2.1 j).trans (hr62 j)
  have hc65 : ∀ j, ac24 0 j = kRow [(8, 1), (7, 0), (4, 1), (3, 0), (1, 0)] (kdv 8) j := fun j => (congrFun (m24.2.2.2 0 (by decide)).2.2 j).trans (hc61 j)
  refine kw_dup dX10_init_127 rfl ?_
  refine kw_callI (av := []) (bc2 := 19) (bs2 := 292) (bc := 5) (bs := 58) m24.1 (by decide) m_X2_init dX10_init_128 wl_X10_76 rfl (Nat.le_of_ble_eq_true rfl) (n_X2 m24.1 m24.2.1 m24.2.2.1 (fun sh24 rf24 c24 f24_0 f24_1 f24_2 f24_3 f24_4 f24_5 f24_6 f24_7 f24_8 f24_9 b24 => ?_))
  show kWP G kM_X10_init _ 5 58 (128 + 3) _ _ ((553, sh24, rf24), c24) Q
  have hs66 : sh24 0 = (18, 20) := (b24 0 (by decide)).1.trans hs63
  have hr67 : ∀ j, rf24 0 j = kRow [(13, 528), (12, 214), (11, 170), (10, 48), (9, 33), (6, 18), (5, 3), (2, 2), (0, 1)] (fun _ => -1) j := fun j => (congrFun (b24 0 (by decide)).2.1 j).trans (hr64 j)
  have hc68 : ∀ j, c24 0 j = kRow [(8, 1), (7, 0), (4, 1), (3, 0), (1, 0)] (kdv 8) j := fun j => (congrFun (b24 0 (by decide)).2.2 j).trans (hc65 j)
  refine kn_putR (kz := 14) rfl fo_X10_14 dX10_init_131 wf_X10_77 hs66 rfl rfl (fun rf25 p25 => ?_)
  have hr69 : ∀ j, rf25 0 j = kRow [(14, 533), (13, 528), (12, 214), (11, 170), (10, 48), (9, 33), (6, 18), (5, 3), (2, 2), (0, 1)] (fun _ => -1) j := fun j => (p25.2 j).trans (by rw [hr67 j]; rfl)
  refine kw_aload_n dX10_init_134 rfl ?_
  refine kn_new (bc := 4) (bs := 53) (A := 553) (N' := 554) rfl rfl kin_X9 tyX9 tyX9_ok rfl dX10_init_135 wn_X10_81 wins_X9 wi_X9 hdv_X9 (fun ah26 af26 ac26 m26 => ?_)
  have hs70 : ah26 0 = (18, 20) := (m26.2.2.2 0 (by decide)).1.trans hs66
  have hr71 : ∀ j, af26 0 j = kRow [(14, 533), (13, 528), (12, 214), (11, 170), (10, 48), (9, 33), (6, 18), (5, 3), (2, 2), (0, 1)] (fun _ => -1) j := fun j => (congrFun (m26.2.2.2 0 (by decide)).2.1 j).trans (hr69 j)
  have hc72 : ∀ j, ac26 0 j = kRow [(8, 1), (7, 0), (4, 1), (3, 0), (1, 0)] (kdv 8) j := fun j => (congrFun (m26.2.2.2 0 (by decide)).2.2 j).trans (hc68 j)
  refine kw_dup dX10_init_138 rfl ?_
  refine kw_callIN (av := []) (bc2 := 0) (bs2 := 0) (bc := 4) (bs := 53) m26.1 (by decide) m_X9_init dX10_init_139 wl_X10_83 rfl (Nat.le_of_ble_eq_true rfl) (n_X9 (A := 553) m26.1 (fun sh26 rf26 c26 f26_0 b26 => ?_))
  show kWP G kM_X10_init _ 4 53 (139 + 3) _ _ ((554, sh26, rf26), c26) Q
  have hs73 : sh26 0 = (18, 20) := (b26 0 (by decide)).1.trans hs70
  have hr74 : ∀ j, rf26 0 j = kRow [(14, 533), (13, 528), (12, 214), (11, 170), (10, 48), (9, 33), (6, 18), (5, 3), (2, 2), (0, 1)] (fun _ => -1) j := fun j => (congrFun (b26 0 (by decide)).2.1 j).trans (hr71 j)
  have hc75 : ∀ j, c26 0 j = kRow [(8, 1), (7, 0), (4, 1), (3, 0), (1, 0)] (kdv 8) j := fun j => (congrFun (b26 0 (by decide)).2.2 j).trans (hc72 j)
  refine kn_putR (kz := 15) rfl fo_X10_15 dX10_init_142 wf_X10_84 hs73 rfl rfl (fun rf27 p27 => ?_)
  have hr76 : ∀ j, rf27 0 j = kRow [(15, 553), (14, 533), (13, 528), (12, 214), (11, 170), (10, 48), (9, 33), (6, 18), (5, 3), (2, 2), (0, 1)] (fun _ => -1) j := fun j => (p27.2 j).trans (by rw [hr74 j]; rfl)
  refine kw_aload_n dX10_init_145 rfl ?_
  refine kn_new (bc := 3) (bs := 48) (A := 554) (N' := 555) rfl rfl kin_X9 tyX9 tyX9_ok rfl dX10_init_146 wn_X10_81 wins_X9 wi_X9 hdv_X9 (fun ah28 af28 ac28 m28 => ?_)
  have hs77 : ah28 0 = (18, 20) := (m28.2.2.2 0 (by decide)).1.trans hs73
  have hr78 : ∀ j, af28 0 j = kRow [(15, 553), (14, 533), (13, 528), (12, 214), (11, 170), (10, 48), (9, 33), (6, 18), (5, 3), (2, 2), (0, 1)] (fun _ => -1) j := fun j => (congrFun (m28.2.2.2 0 (by decide)).2.1 j).trans (hr76 j)
  have hc79 : ∀ j, ac28 0 j = kRow [(8, 1), (7, 0), (4, 1), (3, 0), (1, 0)] (kdv 8) j := fun j => (congrFun (m28.2.2.2 0 (by decide)).2.2 j).trans (hc75 j)
  refine kw_dup dX10_init_149 rfl ?_
  refine kw_callIN (av := []) (bc2 := 0) (bs2 := 0) (bc := 3) (bs := 48) m28.1 (by decide) m_X9_init dX10_init_150 wl_X10_83 rfl (Nat.le_of_ble_eq_true rfl) (n_X9 (A := 554) m28.1 (fun sh28 rf28 c28 f28_0 b28 => ?_))
  show kWP G kM_X10_init _ 3 48 (150 + 3) _ _ ((555, sh28, rf28), c28) Q
  have hs80 : sh28 0 = (18, 20) := (b28 0 (by decide)).1.trans hs77
  have hr81 : ∀ j, rf28 0 j = kRow [(15, 553), (14, 533), (13, 528), (12, 214), (11, 170), (10, 48), (9, 33), (6, 18), (5, 3), (2, 2), (0, 1)] (fun _ => -1) j := fun j => (congrFun (b28 0 (by decide)).2.1 j).trans (hr78 j)
  have hc82 : ∀ j, c28 0 j = kRow [(8, 1), (7, 0), (4, 1), (3, 0), (1, 0)] (kdv 8) j := fun j => (congrFun (b28 0 (by decide)).2.2 j).trans (hc79 j)
  refine kn_putR (kz := 16) rfl fo_X10_16 dX10_init_153 wf_X10_88 hs80 rfl rfl (fun rf29 p29 => ?_)
  have hr83 : ∀ j, rf29 0 j = kRow [(16, 554), (15, 553), (14, 533), (13, 528), (12, 214), (11, 170), (10, 48), (9, 33), (6, 18), (5, 3), (2, 2), (0, 1)] (fun _ => -1) j := fun j => (p29.2 j).trans (by rw [hr81 j]; rfl)
  refine kw_aload_n dX10_init_156 rfl ?_
  refine kw_bipush dX10_init_157 (by decide) ?_
  refine kn_newL (bc := 2) (bs := 32) (A := 555) (N' := 556) 16 rfl rfl rfl dX10_init_159 (by decide) (fun sh30 rf30 c30 n30 => ?_)
  have hs84 : sh30 0 = (18, 20) := (n30.2.2.2 0 (by decide)).1.trans hs80
  have hr85 : ∀ j, rf30 0 j = kRow [(16, 554), (15, 553), (14, 533), (13, 528), (12, 214), (11, 170), (10, 48), (9, 33), (6, 18), (5, 3), (2, 2), (0, 1)] (fun _ => -1) j := fun j => (congrFun (n30.2.2.2 0 (by decide)).2.1 j).trans (hr83 j)
  have hc86 : ∀ j, c30 0 j = kRow [(8, 1), (7, 0), (4, 1), (3, 0), (1, 0)] (kdv 8) j := fun j => (congrFun (n30.2.2.2 0 (by decide)).2.2 j).trans (hc82 j)
  refine kn_putR (kz := 17) rfl fo_X10_17 dX10_init_161 wf_X10_91 hs84 rfl rfl (fun rf31 p31 => ?_)
  have hr87 : ∀ j, rf31 0 j = kRow [(17, 555), (16, 554), (15, 553), (14, 533), (13, 528), (12, 214), (11, 170), (10, 48), (9, 33), (6, 18), (5, 3), (2, 2), (0, 1)] (fun _ => -1) j := fun j => (p31.2 j).trans (by rw [hr85 j]; rfl)
  refine kw_aload_n dX10_init_164 rfl ?_
  refine kw_bipush dX10_init_165 (by decide) ?_
  refine kn_newL (bc := 1) (bs := 16) (A := 556) (N' := 557) 16 rfl rfl rfl dX10_init_167 (by decide) (fun sh32 rf32 c32 n32 => ?_)
  have hs88 : sh32 0 = (18, 20) := (n32.2.2.2 0 (by decide)).1.trans hs84
  have hr89 : ∀ j, rf32 0 j = kRow [(17, 555), (16, 554), (15, 553), (14, 533), (13, 528), (12, 214), (11, 170), (10, 48), (9, 33), (6, 18), (5, 3), (2, 2), (0, 1)] (fun _ => -1) j := fun j => (congrFun (n32.2.2.2 0 (by decide)).2.1 j).trans (hr87 j)
  have hc90 : ∀ j, c32 0 j = kRow [(8, 1), (7, 0), (4, 1), (3, 0), (1, 0)] (kdv 8) j := fun j => (congrFun (n32.2.2.2 0 (by decide)).2.2 j).trans (hc86 j)
  refine kn_putR (kz := 18) rfl fo_X10_18 dX10_init_169 wf_X10_95 hs88 rfl rfl (fun rf33 p33 => ?_)
  have hr91 : ∀ j, rf33 0 j = kRow [(18, 556), (17, 555), (16, 554), (15, 553), (14, 533), (13, 528), (12, 214), (11, 170), (10, 48), (9, 33), (6, 18), (5, 3), (2, 2), (0, 1)] (fun _ => -1) j := fun j => (p33.2 j).trans (by rw [hr89 j]; rfl)
  refine kw_aload_n dX10_init_172 rfl ?_
  refine kw_bipush dX10_init_173 (by decide) ?_
  refine kn_newL (bc := 0) (bs := 0) (A := 557) (N' := 558) 16 rfl rfl rfl dX10_init_175 (by decide) (fun sh34 rf34 c34 n34 => ?_)
  have hs92 : sh34 0 = (18, 20) := (n34.2.2.2 0 (by decide)).1.trans hs88
  have hr93 : ∀ j, rf34 0 j = kRow [(18, 556), (17, 555), (16, 554), (15, 553), (14, 533), (13, 528), (12, 214), (11, 170), (10, 48), (9, 33), (6, 18), (5, 3), (2, 2), (0, 1)] (fun _ => -1) j := fun j => (congrFun (n34.2.2.2 0 (by decide)).2.1 j).trans (hr91 j)
  have hc94 : ∀ j, c34 0 j = kRow [(8, 1), (7, 0), (4, 1), (3, 0), (1, 0)] (kdv 8) j := fun j => (congrFun (n34.2.2.2 0 (by decide)).2.2 j).trans (hc90 j)
  refine kn_putR (kz := 19) rfl fo_X10_19 dX10_init_177 wf_X10_98 hs92 rfl rfl (fun rf35 p35 => ?_)
  have hr95 : ∀ j, rf35 0 j = kRow [(19, 557), (18, 556), (17, 555), (16, 554), (15, 553), (14, 533), (13, 528), (12, 214), (11, 170), (10, 48), (9, 33), (6, 18), (5, 3), (2, 2), (0, 1)] (fun _ => -1) j := fun j => (p35.2 j).trans (by rw [hr93 j]; rfl)
  have fm35 : kSm 0 558 sh34 rf35 c34 sh34 rf35 c34 := kSm.r0
  have fm34 : kSm 0 558 sh34 rf34 c34 sh34 rf35 c34 := (p35.smR).tr fm35 (by decide)
  have fm33 : kSm 0 557 sh32 rf33 c32 sh34 rf35 c34 := (n34.sm (by decide)).tr fm34 (by decide)
  have fm32 : kSm 0 557 sh32 rf32 c32 sh34 rf35 c34 := (p33.smR).tr fm33 (by decide)
  have fm31 : kSm 0 556 sh30 rf31 c30 sh34 rf35 c34 := (n32.sm (by decide)).tr fm32 (by decide)
  have fm30 : kSm 0 556 sh30 rf30 c30 sh34 rf35 c34 := (p31.smR).tr fm31 (by decide)
  have fm29 : kSm 0 555 sh28 rf29 c28 sh34 rf35 c34 := (n30.sm (by decide)).tr fm30 (by decide)
  have fm28 : kSm 0 555 sh28 rf28 c28 sh34 rf35 c34 := (p29.smR).tr fm29 (by decide)
  have fm27 : kSm 0 554 sh26 rf27 c26 sh34 rf35 c34 := ((m28.sm (by decide)).tr (b28.sm (by decide)) (Int.le_refl _)).tr fm28 (by decide)
  have fm26 : kSm 0 554 sh26 rf26 c26 sh34 rf35 c34 := (p27.smR).tr fm27 (by decide)
  have fm25 : kSm 0 553 sh24 rf25 c24 sh34 rf35 c34 := ((m26.sm (by decide)).tr (b26.sm (by decide)) (Int.le_refl _)).tr fm26 (by decide)
  have fm24 : kSm 0 553 sh24 rf24 c24 sh34 rf35 c34 := (p25.smR).tr fm25 (by decide)
  have fm23 : kSm 0 533 sh22 rf23 c22 sh34 rf35 c34 := ((m24.sm (by decide)).tr (b24.sm (by decide)) (Int.le_refl _)).tr fm24 (by decide)
  have fm22 : kSm 0 533 sh22 rf22 c22 sh34 rf35 c34 := (p23.smR).tr fm23 (by decide)
  have fm21 : kSm 0 528 sh20 rf21 c20 sh34 rf35 c34 := ((m22.sm (by decide)).tr (b22.sm (by decide)) (Int.le_refl _)).tr fm22 (by decide)
  have fm20 : kSm 0 528 sh20 rf20 c20 sh34 rf35 c34 := (p21.smR).tr fm21 (by decide)
  have fm19 : kSm 0 214 sh18 rf19 c18 sh34 rf35 c34 := ((m20.sm (by decide)).tr (b20.sm (by decide)) (Int.le_refl _)).tr fm20 (by decide)
  have fm18 : kSm 0 214 sh18 rf18 c18 sh34 rf35 c34 := (p19.smR).tr fm19 (by decide)
  have fm17 : kSm 0 170 sh16 rf17 c16 sh34 rf35 c34 := ((m18.sm (by decide)).tr (b18.sm (by decide)) (Int.le_refl _)).tr fm18 (by decide)
  have fm16 : kSm 0 170 sh16 rf16 c16 sh34 rf35 c34 := (p17.smR).tr fm17 (by decide)
  have fm15 : kSm 0 48 sh14 rf15 c14 sh34 rf35 c34 := ((m16.sm (by decide)).tr (b16.sm (by decide)) (Int.le_refl _)).tr fm16 (by decide)
  have fm14 : kSm 0 48 sh14 rf14 c14 sh34 rf35 c34 := (p15.smR).tr fm15 (by decide)
  have fm13 : kSm 0 33 sh10 rf11 c13 sh34 rf35 c34 := ((m14.sm (by decide)).tr (b14.sm (by decide)) (Int.le_refl _)).tr fm14 (by decide)
  have fm12 : kSm 0 33 sh10 rf11 c12 sh34 rf35 c34 := (p13.smC).tr fm13 (by decide)
  have fm11 : kSm 0 33 sh10 rf11 c10 sh34 rf35 c34 := (p12.smC).tr fm12 (by decide)
  have fm10 : kSm 0 33 sh10 rf10 c10 sh34 rf35 c34 := (p11.smR).tr fm11 (by decide)
  have fm9 : kSm 0 18 sh8 rf9 c8 sh34 rf35 c34 := ((m10.sm (by decide)).tr (b10.sm (by decide)) (Int.le_refl _)).tr fm10 (by decide)
  have fm8 : kSm 0 18 sh8 rf8 c8 sh34 rf35 c34 := (p9.smR).tr fm9 (by decide)
  have fm7 : kSm 0 3 sh4 rf5 c7 sh34 rf35 c34 := ((m8.sm (by decide)).tr (b8.sm (by decide)) (Int.le_refl _)).tr fm8 (by decide)
  have fm6 : kSm 0 3 sh4 rf5 c6 sh34 rf35 c34 := (p7.smC).tr fm7 (by decide)
  have fm5 : kSm 0 3 sh4 rf5 c4 sh34 rf35 c34 := (p6.smC).tr fm6 (by decide)
  have fm4 : kSm 0 3 sh4 rf4 c4 sh34 rf35 c34 := (p5.smR).tr fm5 (by decide)
  have fm3 : kSm 0 2 sh1 rf2 c3 sh34 rf35 c34 := (n4.sm (by decide)).tr fm4 (by decide)
  have fm2 : kSm 0 2 sh1 rf2 c1 sh34 rf35 c34 := (p3.smC).tr fm3 (by decide)
  have fm1 : kSm 0 2 sh1 rf1 c1 sh34 rf35 c34 := (p2.smR).tr fm2 (by decide)
  have fm0 : kSm 0 1 sh rf c sh34 rf35 c34 := (n1.sm (by decide)).tr fm1 (by decide)
  exact kw_ret dX10_init_180 rfl (k sh34 rf35 c34 hs92 hr95 hc94 ((fm1 1 (by decide) (by decide)).1.trans n1.1) ((fm4 2 (by decide) (by decide)).1.trans n4.1) (f8_0.sm (fun u p q => ⟨(fm8 u (by omega) (by omega)).1, (fm8 u (by omega) (by omega)).2.1⟩)) (fun j => (congrFun (fm8 17 (by decide) (by decide)).2.2 j).trans (f8_1 j)) (f10_0.sm (fun u p q => ⟨(fm10 u (by omega) (by omega)).1, (fm10 u (by omega) (by omega)).2.1⟩)) (fun j => (congrFun (fm10 32 (by decide) (by decide)).2.2 j).trans (f10_1 j)) (f14_0.sm (fun u p q => ⟨(fm14 u (by omega) (by omega)).1, (fm14 u (by omega) (by omega)).2.1⟩)) (fun j => (congrFun (fm14 47 (by decide) (by decide)).2.2 j).trans (f14_1 j)) ((fm16 48 (by decide) (by decide)).1.trans f16_0) (fun j => (congrFun (fm16 48 (by decide) (by decide)).2.1 j).trans (f16_1 j)) (fun j => (congrFun (fm16 48 (by decide) (by decide)).2.2 j).trans (f16_2 j)) ((fm16 49 (by decide) (by decide)).1.trans f16_3) (fun x p q => ⟨(congrFun (fm16 49 (by decide) (by decide)).2.1 x).trans (f16_4 x p q).1, (f16_4 x p q).2.sm (fun u p2 q2 => ⟨(fm16 u (by omega) (by omega)).1, (fm16 u (by omega) (by omega)).2.1⟩)⟩) ((fm18 170 (by decide) (by decide)).1.trans f18_0) (fun j => (congrFun (fm18 170 (by decide) (by decide)).2.1 j).trans (f18_1 j)) (fun j => (congrFun (fm18 170 (by decide) (by decide)).2.2 j).trans (f18_2 j)) (f18_3.sm (fun u p q => ⟨(fm18 u (by omega) (by omega)).1, (fm18 u (by omega) (by omega)).2.1⟩)) (fun j => (congrFun (fm18 185 (by decide) (by decide)).2.2 j).trans (f18_4 j)) (f18_5.sm (fun u p q => ⟨(fm18 u (by omega) (by omega)).1, (fm18 u (by omega) (by omega)).2.1⟩)) (f18_6.sm (fun u p q => ⟨(fm18 u (by omega) (by omega)).1, (fm18 u (by omega) (by omega)).2.1⟩)) (f18_7.sm (fun u p q => ⟨(fm18 u (by omega) (by omega)).1, (fm18 u (by omega) (by omega)).2.1⟩)) ((fm18 210 (by decide) (by decide)).1.trans f18_8) ((fm18 211 (by decide) (by decide)).1.trans f18_9) ((fm18 212 (by decide) (by decide)).1.trans f18_10) ((fm18 213 (by decide) (by decide)).1.trans f18_11) ((fm20 214 (by decide) (by decide)).1.trans f20_0) (fun j => (congrFun (fm20 214 (by decide) (by decide)).2.1 j).trans (f20_1 j)) (fun j => (congrFun (fm20 214 (by decide) (by decide)).2.2 j).trans (f20_2 j)) (f20_3.sm (fun u p q => ⟨(fm20 u (by omega) (by omega)).1, (fm20 u (by omega) (by omega)).2.1⟩)) ((fm20 222 (by decide) (by decide)).1.trans f20_4) (fun j => (congrFun (fm20 222 (by decide) (by decide)).2.1 j).trans (f20_5 j)) (fun j => (congrFun (fm20 222 (by decide) (by decide)).2.2 j).trans (f20_6 j)) (f20_7.sm (fun u p q => ⟨(fm20 u (by omega) (by omega)).1, (fm20 u (by omega) (by omega)).2.1⟩)) ((fm20 524 (by decide) (by decide)).1.trans f20_8) ((fm20 525 (by decide) (by decide)).1.trans f20_9) ((fm20 526 (by decide) (by decide)).1.trans f20_10) ((fm20 527 (by decide) (by decide)).1.trans f20_11) ((fm22 528 (by decide) (by decide)).1.trans f22_0) (fun j => (congrFun (fm22 528 (by decide) (by decide)).2.1 j).trans (f22_1 j)) ((fm22 529 (by decide) (by decide)).1.trans f22_2) ((fm22 530 (by decide) (by decide)).1.trans f22_3) ((fm22 531 (by decide) (by decide)).1.trans f22_4) ((fm22 532 (by decide) (by decide)).1.trans f22_5) (fun j p q => (congrFun (fm22 529 (by decide) (by decide)).2.2 j).trans (f22_6 j p q)) ((fm24 533 (by decide) (by decide)).1.trans f24_0) (fun j => (congrFun (fm24 533 (by decide) (by decide)).2.1 j).trans (f24_1 j)) (f24_2.sm (fun u p q => ⟨(fm24 u (by omega) (by omega)).1, (fm24 u (by omega) (by omega)).2.1⟩)) ((fm24 547 (by decide) (by decide)).1.trans f24_3) ((fm24 548 (by decide) (by decide)).1.trans f24_4) ((fm24 549 (by decide) (by decide)).1.trans f24_5) ((fm24 550 (by decide) (by decide)).1.trans f24_6) ((fm24 551 (by decide) (by decide)).1.trans f24_7) ((fm24 552 (by decide) (by decide)).1.trans f24_8) (fun j p q => (congrFun (fm24 549 (by decide) (by decide)).2.2 j).trans (f24_9 j p q)) ((fm26 553 (by decide) (by decide)).1.trans f26_0) ((fm28 554 (by decide) (by decide)).1.trans f28_0) ((fm30 555 (by decide) (by decide)).1.trans n30.1) ((fm32 556 (by decide) (by decide)).1.trans n32.1) ((fm34 557 (by decide) (by decide)).1.trans n34.1) (fm0.bl (by decide)))
