set_option maxHeartbeats 2000000 in
theorem n_X6 {G : KG} {d : Nat} {sh : KSf} {rf c : KMem} {Q : Option AV → KSt → Prop} (h0 : sh 222 = (15, 2)) (hr0 : ∀ j, rf 222 j = -1) (hc0 : ∀ j, c 222 j = kdv 5 j) (k : ∀ sh' rf' c', (sh' 222 = (15, 2)) → (∀ j, rf' 222 j = kRow [(0, 223)] (fun _ => -1) j) → (∀ j, c' 222 j = kRow [(1, 0)] (kdv 5) j) → (kRwA sh' rf' 223 300) → kBl 222 sh rf c sh' rf' c' → Q none ((524, sh', rf'), c')) : kCall G kM_X6_init (d + 1) 301 5100 [kA 222] ((223, sh, rf), c) Q := by
  refine kMet (by decide) rfl (Nat.le_of_ble_eq_true rfl) ?_
  show kWP G kM_X6_init (d + 1) 301 5100 0 [some (kA 222)] [] ((223, sh, rf), c) Q
  refine kw_aload_n dX6_init_0 rfl ?_
  refine kw_objinit dX6_init_1 wl_X6_3 w_oi w_oc h0 (by decide) (by decide) ?_
  refine kw_aload_n dX6_init_4 rfl ?_
  refine kw_sipush dX6_init_5 (by decide) ?_
  refine kw_bipush dX6_init_8 (by decide) ?_
  refine kn_mnew (bc := 0) (bs := 0) (A := 223) (N' := 524) 300 16 rfl rfl rfl rfl dX6_init_10 wn_X6_9 (by decide) (by decide) (fun sh1 rf1 c1 n1 => ?_)
  have hs1 : sh1 222 = (15, 2) := (n1.2.2 222 (by decide)).1.trans h0
  have hr2 : ∀ j, rf1 222 j = kRow [] (fun _ => -1) j := fun j => (congrFun (n1.2.2 222 (by decide)).2.1 j).trans (hr0 j)
  have hc3 : ∀ j, c1 222 j = kRow [] (kdv 5) j := fun j => (congrFun (n1.2.2 222 (by decide)).2.2 j).trans (hc0 j)
  refine kn_putR (kz := 0) rfl fo_X6_0 dX6_init_14 wf_X6_11 hs1 rfl rfl (fun rf2 p2 => ?_)
  have hr4 : ∀ j, rf2 222 j = kRow [(0, 223)] (fun _ => -1) j := fun j => (p2.2 j).trans (by rw [hr2 j]; rfl)
  refine kw_aload_n dX6_init_17 rfl ?_
  refine kw_iconst dX6_init_18 ?_
  refine kn_putI (kz := 1) rfl fp_X6_1 dX6_init_19 wf_X6_16 hs1 (fun c3 p3 => ?_)
  have hc5 : ∀ j, c3 222 j = kRow [(1, 0)] (kdv 5) j := fun j => (p3.2 j).trans (by rw [hc3 j]; rfl)
  have fm3 : kSm 222 524 sh1 rf2 c3 sh1 rf2 c3 := kSm.r0
  have fm2 : kSm 222 524 sh1 rf2 c1 sh1 rf2 c3 := (p3.smC).tr fm3 (by decide)
  have fm1 : kSm 222 524 sh1 rf1 c1 sh1 rf2 c3 := (p2.smR).tr fm2 (by decide)
  have fm0 : kSm 222 223 sh rf c sh1 rf2 c3 := (n1.sm (by decide)).tr fm1 (by decide)
  exact kw_ret dX6_init_22 rfl (k sh1 rf2 c3 hs1 hr4 hc5 (n1.rw.sm (fun u p q => ⟨(fm1 u (by omega) (by omega)).1, (fm1 u (by omega) (by omega)).2.1⟩)) (fm0.bl (by decide)))
set_option maxHeartbeats 2000000 in
theorem n_X3 {G : KG} {d : Nat} {sh : KSf} {rf c : KMem} {Q : Option AV → KSt → Prop} (h0 : sh 214 = (12, 7)) (hr0 : ∀ j, rf 214 j = -1) (hc0 : ∀ j, c 214 j = kdv 2 j) (k : ∀ sh' rf' c', (sh' 214 = (12, 7)) → (∀ j, rf' 214 j = kRow [(6, 527), (5, 526), (4, 525), (3, 524), (2, 222), (0, 215)] (fun _ => -1) j) → (∀ j, c' 214 j = kRow [(1, 0)] (kdv 2) j) → (kRwA sh' rf' 215 6) → (sh' 222 = (15, 2)) → (∀ j, rf' 222 j = kRow [(0, 223)] (fun _ => -1) j) → (∀ j, c' 222 j = kRow [(1, 0)] (kdv 5) j) → (kRwA sh' rf' 223 300) → (sh' 524 = (2, 16)) → (sh' 525 = (2, 16)) → (sh' 526 = (2, 16)) → (sh' 527 = (2, 16)) → kBl 214 sh rf c sh' rf' c' → Q none ((528, sh', rf'), c')) : kCall G kM_X3_init (d + 2) 313 5268 [kA 214] ((215, sh, rf), c) Q := by
  refine kMet (by decide) rfl (Nat.le_of_ble_eq_true rfl) ?_
  show kWP G kM_X3_init (d + 2) 313 5268 0 [some (kA 214)] [] ((215, sh, rf), c) Q
  refine kw_aload_n dX3_init_0 rfl ?_
  refine kw_objinit dX3_init_1 wl_X3_3 w_oi w_oc h0 (by decide) (by decide) ?_
  refine kw_aload_n dX3_init_4 rfl ?_
  refine kw_bipush dX3_init_5 (by decide) ?_
  refine kw_bipush dX3_init_7 (by decide) ?_
  refine kn_mnew (bc := 306) (bs := 5166) (A := 215) (N' := 222) 6 16 rfl rfl rfl rfl dX3_init_9 wn_X3_9 (by decide) (by decide) (fun sh1 rf1 c1 n1 => ?_)
  have hs1 : sh1 214 = (12, 7) := (n1.2.2 214 (by decide)).1.trans h0
  have hr2 : ∀ j, rf1 214 j = kRow [] (fun _ => -1) j := fun j => (congrFun (n1.2.2 214 (by decide)).2.1 j).trans (hr0 j)
  have hc3 : ∀ j, c1 214 j = kRow [] (kdv 2) j := fun j => (congrFun (n1.2.2 214 (by decide)).2.2 j).trans (hc0 j)
  refine kn_putR (kz := 0) rfl fo_X3_0 dX3_init_13 wf_X3_11 hs1 rfl rfl (fun rf2 p2 => ?_)
  have hr4 : ∀ j, rf2 214 j = kRow [(0, 215)] (fun _ => -1) j := fun j => (p2.2 j).trans (by rw [hr2 j]; rfl)
  refine kw_aload_n dX3_init_16 rfl ?_
  refine kw_iconst dX3_init_17 ?_
  refine kn_putI (kz := 1) rfl fp_X3_1 dX3_init_18 wf_X3_16 hs1 (fun c3 p3 => ?_)
  have hc5 : ∀ j, c3 214 j = kRow [(1, 0)] (kdv 2) j := fun j => (p3.2 j).trans (by rw [hc3 j]; rfl)
  refine kw_aload_n dX3_init_21 rfl ?_
  refine kn_new (bc := 305) (bs := 5164) (A := 222) (N' := 223) rfl rfl kin_X6 tyX6 tyX6_ok rfl dX3_init_22 wn_X3_20 wins_X6 wi_X6 hdv_X6 (fun ah4 af4 ac4 m4 => ?_)
  have hs6 : ah4 214 = (12, 7) := (m4.2.2.2 214 (by decide)).1.trans hs1
  have hr7 : ∀ j, af4 214 j = kRow [(0, 215)] (fun _ => -1) j := fun j => (congrFun (m4.2.2.2 214 (by decide)).2.1 j).trans (hr4 j)
  have hc8 : ∀ j, ac4 214 j = kRow [(1, 0)] (kdv 2) j := fun j => (congrFun (m4.2.2.2 214 (by decide)).2.2 j).trans (hc5 j)
  refine kw_dup dX3_init_25 rfl ?_
  refine kw_callIN (av := []) (bc2 := 301) (bs2 := 5100) (bc := 4) (bs := 64) m4.1 (by decide) m_X6_init dX3_init_26 wl_X3_22 rfl (Nat.le_of_ble_eq_true rfl) (n_X6 m4.1 m4.2.1 m4.2.2.1 (fun sh4 rf4 c4 f4_0 f4_1 f4_2 f4_3 b4 => ?_))
  show kWP G kM_X3_init _ 4 64 (26 + 3) _ _ ((524, sh4, rf4), c4) Q
  have hs9 : sh4 214 = (12, 7) := (b4 214 (by decide)).1.trans hs6
  have hr10 : ∀ j, rf4 214 j = kRow [(0, 215)] (fun _ => -1) j := fun j => (congrFun (b4 214 (by decide)).2.1 j).trans (hr7 j)
  have hc11 : ∀ j, c4 214 j = kRow [(1, 0)] (kdv 2) j := fun j => (congrFun (b4 214 (by decide)).2.2 j).trans (hc8 j)
  refine kn_putR (kz := 2) rfl fo_X3_2 dX3_init_29 wf_X3_23 hs9 rfl rfl (fun rf5 p5 => ?_)
  have hr12 : ∀ j, rf5 214 j = kRow [(2, 222), (0, 215)] (fun _ => -1) j := fun j => (p5.2 j).trans (by rw [hr10 j]; rfl)
  refine kw_aload_n dX3_init_32 rfl ?_
  refine kw_bipush dX3_init_33 (by decide) ?_
  refine kn_newL (bc := 3) (bs := 48) (A := 524) (N' := 525) 16 rfl rfl rfl dX3_init_35 (by decide) (fun sh6 rf6 c6 n6 => ?_)
  have hs13 : sh6 214 = (12, 7) := (n6.2.2.2 214 (by decide)).1.trans hs9
  have hr14 : ∀ j, rf6 214 j = kRow [(2, 222), (0, 215)] (fun _ => -1) j := fun j => (congrFun (n6.2.2.2 214 (by decide)).2.1 j).trans (hr12 j)
  have hc15 : ∀ j, c6 214 j = kRow [(1, 0)] (kdv 2) j := fun j => (congrFun (n6.2.2.2 214 (by decide)).2.2 j).trans (hc11 j)
  refine kn_putR (kz := 3) rfl fo_X3_3 dX3_init_37 wf_X3_27 hs13 rfl rfl (fun rf7 p7 => ?_)
  have hr16 : ∀ j, rf7 214 j = kRow [(3, 524), (2, 222), (0, 215)] (fun _ => -1) j := fun j => (p7.2 j).trans (by rw [hr14 j]; rfl)
  refine kw_aload_n dX3_init_40 rfl ?_
  refine kw_bipush dX3_init_41 (by decide) ?_
  refine kn_newL (bc := 2) (bs := 32) (A := 525) (N' := 526) 16 rfl rfl rfl dX3_init_43 (by decide) (fun sh8 rf8 c8 n8 => ?_)
  have hs17 : sh8 214 = (12, 7) := (n8.2.2.2 214 (by decide)).1.trans hs13
  have hr18 : ∀ j, rf8 214 j = kRow [(3, 524), (2, 222), (0, 215)] (fun _ => -1) j := fun j => (congrFun (n8.2.2.2 214 (by decide)).2.1 j).trans (hr16 j)
  have hc19 : ∀ j, c8 214 j = kRow [(1, 0)] (kdv 2) j := fun j => (congrFun (n8.2.2.2 214 (by decide)).2.2 j).trans (hc15 j)
  refine kn_putR (kz := 4) rfl fo_X3_4 dX3_init_45 wf_X3_31 hs17 rfl rfl (fun rf9 p9 => ?_)
  have hr20 : ∀ j, rf9 214 j = kRow [(4, 525), (3, 524), (2, 222), (0, 215)] (fun _ => -1) j := fun j => (p9.2 j).trans (by rw [hr18 j]; rfl)
  refine kw_aload_n dX3_init_48 rfl ?_
  refine kw_bipush dX3_init_49 (by decide) ?_
  refine kn_newL (bc := 1) (bs := 16) (A := 526) (N' := 527) 16 rfl rfl rfl dX3_init_51 (by decide) (fun sh10 rf10 c10 n10 => ?_)
  have hs21 : sh10 214 = (12, 7) := (n10.2.2.2 214 (by decide)).1.trans hs17
  have hr22 : ∀ j, rf10 214 j = kRow [(4, 525), (3, 524), (2, 222), (0, 215)] (fun _ => -1) j := fun j => (congrFun (n10.2.2.2 214 (by decide)).2.1 j).trans (hr20 j)
  have hc23 : ∀ j, c10 214 j = kRow [(1, 0)] (kdv 2) j := fun j => (congrFun (n10.2.2.2 214 (by decide)).2.2 j).trans (hc19 j)
  refine kn_putR (kz := 5) rfl fo_X3_5 dX3_init_53 wf_X3_34 hs21 rfl rfl (fun rf11 p11 => ?_)
  have hr24 : ∀ j, rf11 214 j = kRow [(5, 526), (4, 525), (3, 524), (2, 222), (0, 215)] (fun _ => -1) j := fun j => (p11.2 j).trans (by rw [hr22 j]; rfl)
  refine kw_aload_n dX3_init_56 rfl ?_
  refine kw_bipush dX3_init_57 (by decide) ?_
  refine kn_newL (bc := 0) (bs := 0) (A := 527) (N' := 528) 16 rfl rfl rfl dX3_init_59 (by decide) (fun sh12 rf12 c12 n12 => ?_)
  have hs25 : sh12 214 = (12, 7) := (n12.2.2.2 214 (by decide)).1.trans hs21
  have hr26 : ∀ j, rf12 214 j = kRow [(5, 526), (4, 525), (3, 524), (2, 222), (0, 215)] (fun _ => -1) j := fun j => (congrFun (n12.2.2.2 214 (by decide)).2.1 j).trans (hr24 j)
  have hc27 : ∀ j, c12 214 j = kRow [(1, 0)] (kdv 2) j := fun j => (congrFun (n12.2.2.2 214 (by decide)).2.2 j).trans (hc23 j)
  refine kn_putR (kz := 6) rfl fo_X3_6 dX3_init_61 wf_X3_37 hs25 rfl rfl (fun rf13 p13 => ?_)
  have hr28 : ∀ j, rf13 214 j = kRow [(6, 527), (5, 526), (4, 525), (3, 524), (2, 222), (0, 215)] (fun _ => -1) j := fun j => (p13.2 j).trans (by rw [hr26 j]; rfl)
  have fm13 : kSm 214 528 sh12 rf13 c12 sh12 rf13 c12 := kSm.r0
  have fm12 : kSm 214 528 sh12 rf12 c12 sh12 rf13 c12 := (p13.smR).tr fm13 (by decide)
  have fm11 : kSm 214 527 sh10 rf11 c10 sh12 rf13 c12 := (n12.sm (by decide)).tr fm12 (by decide)
  have fm10 : kSm 214 527 sh10 rf10 c10 sh12 rf13 c12 := (p11.smR).tr fm11 (by decide)
  have fm9 : kSm 214 526 sh8 rf9 c8 sh12 rf13 c12 := (n10.sm (by decide)).tr fm10 (by decide)
  have fm8 : kSm 214 526 sh8 rf8 c8 sh12 rf13 c12 := (p9.smR).tr fm9 (by decide)
  have fm7 : kSm 214 525 sh6 rf7 c6 sh12 rf13 c12 := (n8.sm (by decide)).tr fm8 (by decide)
  have fm6 : kSm 214 525 sh6 rf6 c6 sh12 rf13 c12 := (p7.smR).tr fm7 (by decide)
  have fm5 : kSm 214 524 sh4 rf5 c4 sh12 rf13 c12 := (n6.sm (by decide)).tr fm6 (by decide)
  have fm4 : kSm 214 524 sh4 rf4 c4 sh12 rf13 c12 := (p5.smR).tr fm5 (by decide)
  have fm3 : kSm 214 222 sh1 rf2 c3 sh12 rf13 c12 := ((m4.sm (by decide)).tr (b4.sm (by decide)) (Int.le_refl _)).tr fm4 (by decide)
  have fm2 : kSm 214 222 sh1 rf2 c1 sh12 rf13 c12 := (p3.smC).tr fm3 (by decide)
  have fm1 : kSm 214 222 sh1 rf1 c1 sh12 rf13 c12 := (p2.smR).tr fm2 (by decide)
  have fm0 : kSm 214 215 sh rf c sh12 rf13 c12 := (n1.sm (by decide)).tr fm1 (by decide)
  exact kw_ret dX3_init_64 rfl (k sh12 rf13 c12 hs25 hr28 hc27 (n1.rw.sm (fun u p q => ⟨(fm1 u (by omega) (by omega)).1, (fm1 u (by omega) (by omega)).2.1⟩)) ((fm4 222 (by decide) (by decide)).1.trans f4_0) (fun j => (congrFun (fm4 222 (by decide) (by decide)).2.1 j).trans (f4_1 j)) (fun j => (congrFun (fm4 222 (by decide) (by decide)).2.2 j).trans (f4_2 j)) (f4_3.sm (fun u p q => ⟨(fm4 u (by omega) (by omega)).1, (fm4 u (by omega) (by omega)).2.1⟩)) ((fm6 524 (by decide) (by decide)).1.trans n6.1) ((fm8 525 (by decide) (by decide)).1.trans n8.1) ((fm10 526 (by decide) (by decide)).1.trans n10.1) ((fm12 527 (by decide) (by decide)).1.trans n12.1) (fm0.bl (by decide)))
set_option maxHeartbeats 2000000 in
theorem n_X7 {G : KG} {d : Nat} {sh : KSf} {rf c : KMem} {Q : Option AV → KSt → Prop} (h0 : sh 170 = (16, 12)) (hr0 : ∀ j, rf 170 j = -1) (hc0 : ∀ j, c 170 j = kdv 6 j) (k : ∀ sh' rf' c', (sh' 170 = (16, 12)) → (∀ j, rf' 170 j = kRow [(6, 212), (5, 211), (4, 210), (3, 202), (2, 194), (1, 186), (0, 171)] (fun _ => -1) j) → (∀ j, c' 170 j = kRow [(11, 0), (10, 0), (9, 0), (8, 0), (7, 213)] (kdv 6) j) → (kLet (0, sh', rf') 171) → (∀ j, c' 185 j = 0) → (kRwA sh' rf' 186 7) → (kRwA sh' rf' 194 7) → (kRwA sh' rf' 202 7) → (sh' 210 = (2, 16)) → (sh' 211 = (2, 16)) → (sh' 212 = (2, 16)) → (sh' 213 = (1, 0)) → kBl 170 sh rf c sh' rf' c' → Q none ((214, sh', rf'), c')) : kCall G kM_X7_init (d + 2) 43 623 [kA 170] ((171, sh, rf), c) Q := by
  refine kMet (by decide) rfl (Nat.le_of_ble_eq_true rfl) ?_
  show kWP G kM_X7_init (d + 2) 43 623 0 [some (kA 170)] [] ((171, sh, rf), c) Q
  refine kw_aload_n dX7_init_0 rfl ?_
  refine kw_objinit dX7_init_1 wl_X7_3 w_oi w_oc h0 (by decide) (by decide) ?_
  refine kw_aload_n dX7_init_4 rfl ?_
  refine kn_new (bc := 42) (bs := 621) (A := 171) (N' := 172) rfl rfl kin_X1 tyX1 tyX1_ok rfl dX7_init_5 wn_X7_9 wins_X1 wi_X1 hdv_X1 (fun ah1 af1 ac1 m1 => ?_)
  have hs1 : ah1 170 = (16, 12) := (m1.2.2.2 170 (by decide)).1.trans h0
  have hr2 : ∀ j, af1 170 j = kRow [] (fun _ => -1) j := fun j => (congrFun (m1.2.2.2 170 (by decide)).2.1 j).trans (hr0 j)
  have hc3 : ∀ j, ac1 170 j = kRow [] (kdv 6) j := fun j => (congrFun (m1.2.2.2 170 (by decide)).2.2 j).trans (hc0 j)
  refine kw_dup dX7_init_8 rfl ?_
  refine kw_callIN (av := []) (bc2 := 14) (bs2 := 216) (bc := 28) (bs := 405) m1.1 (by decide) m_X1_init dX7_init_9 wl_X7_11 rfl (Nat.le_of_ble_eq_true rfl) (n_X1 (N := 172) (N' := 186) (A := 171) rfl rfl m1.1 (fun sh1 rf1 c1 f1_0 f1_1 b1 => ?_))
  show kWP G kM_X7_init _ 28 405 (9 + 3) _ _ ((186, sh1, rf1), c1) Q
  have hs4 : sh1 170 = (16, 12) := (b1 170 (by decide)).1.trans hs1
  have hr5 : ∀ j, rf1 170 j = kRow [] (fun _ => -1) j := fun j => (congrFun (b1 170 (by decide)).2.1 j).trans (hr2 j)
  have hc6 : ∀ j, c1 170 j = kRow [] (kdv 6) j := fun j => (congrFun (b1 170 (by decide)).2.2 j).trans (hc3 j)
  refine kn_putR (kz := 0) rfl fo_X7_0 dX7_init_12 wf_X7_12 hs4 rfl rfl (fun rf2 p2 => ?_)
  have hr7 : ∀ j, rf2 170 j = kRow [(0, 171)] (fun _ => -1) j := fun j => (p2.2 j).trans (by rw [hr5 j]; rfl)
  refine kw_aload_n dX7_init_15 rfl ?_
  refine kw_bipush dX7_init_16 (by decide) ?_
  refine kw_bipush dX7_init_18 (by decide) ?_
  refine kn_mnew (bc := 20) (bs := 286) (A := 186) (N' := 194) 7 16 rfl rfl rfl rfl dX7_init_20 wn_X7_18 (by decide) (by decide) (fun sh3 rf3 c3 n3 => ?_)
  have hs8 : sh3 170 = (16, 12) := (n3.2.2 170 (by decide)).1.trans hs4
  have hr9 : ∀ j, rf3 170 j = kRow [(0, 171)] (fun _ => -1) j := fun j => (congrFun (n3.2.2 170 (by decide)).2.1 j).trans (hr7 j)
  have hc10 : ∀ j, c3 170 j = kRow [] (kdv 6) j := fun j => (congrFun (n3.2.2 170 (by decide)).2.2 j).trans (hc6 j)
  refine kn_putR (kz := 1) rfl fo_X7_1 dX7_init_24 wf_X7_20 hs8 rfl rfl (fun rf4 p4 => ?_)
  have hr11 : ∀ j, rf4 170 j = kRow [(1, 186), (0, 171)] (fun _ => -1) j := fun j => (p4.2 j).trans (by rw [hr9 j]; rfl)
  refine kw_aload_n dX7_init_27 rfl ?_
  refine kw_bipush dX7_init_28 (by decide) ?_
  refine kw_bipush dX7_init_30 (by decide) ?_
  refine kn_mnew (bc := 12) (bs := 167) (A := 194) (N' := 202) 7 16 rfl rfl rfl rfl dX7_init_32 wn_X7_18 (by decide) (by decide) (fun sh5 rf5 c5 n5 => ?_)
  have hs12 : sh5 170 = (16, 12) := (n5.2.2 170 (by decide)).1.trans hs8
  have hr13 : ∀ j, rf5 170 j = kRow [(1, 186), (0, 171)] (fun _ => -1) j := fun j => (congrFun (n5.2.2 170 (by decide)).2.1 j).trans (hr11 j)
  have hc14 : ∀ j, c5 170 j = kRow [] (kdv 6) j := fun j => (congrFun (n5.2.2 170 (by decide)).2.2 j).trans (hc10 j)
  refine kn_putR (kz := 2) rfl fo_X7_2 dX7_init_36 wf_X7_23 hs12 rfl rfl (fun rf6 p6 => ?_)
  have hr15 : ∀ j, rf6 170 j = kRow [(2, 194), (1, 186), (0, 171)] (fun _ => -1) j := fun j => (p6.2 j).trans (by rw [hr13 j]; rfl)
  refine kw_aload_n dX7_init_39 rfl ?_
  refine kw_bipush dX7_init_40 (by decide) ?_
  refine kw_bipush dX7_init_42 (by decide) ?_
  refine kn_mnew (bc := 4) (bs := 48) (A := 202) (N' := 210) 7 16 rfl rfl rfl rfl dX7_init_44 wn_X7_18 (by decide) (by decide) (fun sh7 rf7 c7 n7 => ?_)
  have hs16 : sh7 170 = (16, 12) := (n7.2.2 170 (by decide)).1.trans hs12
  have hr17 : ∀ j, rf7 170 j = kRow [(2, 194), (1, 186), (0, 171)] (fun _ => -1) j := fun j => (congrFun (n7.2.2 170 (by decide)).2.1 j).trans (hr15 j)
  have hc18 : ∀ j, c7 170 j = kRow [] (kdv 6) j := fun j => (congrFun (n7.2.2 170 (by decide)).2.2 j).trans (hc14 j)
  refine kn_putR (kz := 3) rfl fo_X7_3 dX7_init_48 wf_X7_26 hs16 rfl rfl (fun rf8 p8 => ?_)
  have hr19 : ∀ j, rf8 170 j = kRow [(3, 202), (2, 194), (1, 186), (0, 171)] (fun _ => -1) j := fun j => (p8.2 j).trans (by rw [hr17 j]; rfl)
  refine kw_aload_n dX7_init_51 rfl ?_
  refine kw_bipush dX7_init_52 (by decide) ?_
  refine kn_newL (bc := 3) (bs := 32) (A := 210) (N' := 211) 16 rfl rfl rfl dX7_init_54 (by decide) (fun sh9 rf9 c9 n9 => ?_)
  have hs20 : sh9 170 = (16, 12) := (n9.2.2.2 170 (by decide)).1.trans hs16
  have hr21 : ∀ j, rf9 170 j = kRow [(3, 202), (2, 194), (1, 186), (0, 171)] (fun _ => -1) j := fun j => (congrFun (n9.2.2.2 170 (by decide)).2.1 j).trans (hr19 j)
  have hc22 : ∀ j, c9 170 j = kRow [] (kdv 6) j := fun j => (congrFun (n9.2.2.2 170 (by decide)).2.2 j).trans (hc18 j)
  refine kn_putR (kz := 4) rfl fo_X7_4 dX7_init_56 wf_X7_29 hs20 rfl rfl (fun rf10 p10 => ?_)
  have hr23 : ∀ j, rf10 170 j = kRow [(4, 210), (3, 202), (2, 194), (1, 186), (0, 171)] (fun _ => -1) j := fun j => (p10.2 j).trans (by rw [hr21 j]; rfl)
  refine kw_aload_n dX7_init_59 rfl ?_
  refine kw_bipush dX7_init_60 (by decide) ?_
  refine kn_newL (bc := 2) (bs := 16) (A := 211) (N' := 212) 16 rfl rfl rfl dX7_init_62 (by decide) (fun sh11 rf11 c11 n11 => ?_)
  have hs24 : sh11 170 = (16, 12) := (n11.2.2.2 170 (by decide)).1.trans hs20
  have hr25 : ∀ j, rf11 170 j = kRow [(4, 210), (3, 202), (2, 194), (1, 186), (0, 171)] (fun _ => -1) j := fun j => (congrFun (n11.2.2.2 170 (by decide)).2.1 j).trans (hr23 j)
  have hc26 : ∀ j, c11 170 j = kRow [] (kdv 6) j := fun j => (congrFun (n11.2.2.2 170 (by decide)).2.2 j).trans (hc22 j)
  refine kn_putR (kz := 5) rfl fo_X7_5 dX7_init_64 wf_X7_33 hs24 rfl rfl (fun rf12 p12 => ?_)
  have hr27 : ∀ j, rf12 170 j = kRow [(5, 211), (4, 210), (3, 202), (2, 194), (1, 186), (0, 171)] (fun _ => -1) j := fun j => (p12.2 j).trans (by rw [hr25 j]; rfl)
  refine kw_aload_n dX7_init_67 rfl ?_
  refine kw_bipush dX7_init_68 (by decide) ?_
  refine kn_newL (bc := 1) (bs := 0) (A := 212) (N' := 213) 16 rfl rfl rfl dX7_init_70 (by decide) (fun sh13 rf13 c13 n13 => ?_)
  have hs28 : sh13 170 = (16, 12) := (n13.2.2.2 170 (by decide)).1.trans hs24
  have hr29 : ∀ j, rf13 170 j = kRow [(5, 211), (4, 210), (3, 202), (2, 194), (1, 186), (0, 171)] (fun _ => -1) j := fun j => (congrFun (n13.2.2.2 170 (by decide)).2.1 j).trans (hr27 j)
  have hc30 : ∀ j, c13 170 j = kRow [] (kdv 6) j := fun j => (congrFun (n13.2.2.2 170 (by decide)).2.2 j).trans (hc26 j)
  refine kn_putR (kz := 6) rfl fo_X7_6 dX7_init_72 wf_X7_36 hs28 rfl rfl (fun rf14 p14 => ?_)
  have hr31 : ∀ j, rf14 170 j = kRow [(6, 212), (5, 211), (4, 210), (3, 202), (2, 194), (1, 186), (0, 171)] (fun _ => -1) j := fun j => (p14.2 j).trans (by rw [hr29 j]; rfl)
  refine kw_aload_n dX7_init_75 rfl ?_
  refine kw_iconst dX7_init_76 ?_
  refine kn_newI (bc := 0) (bs := 0) (A := 213) (N' := 214) 0 rfl rfl rfl dX7_init_77 (by decide) (fun sh15 rf15 c15 n15 => ?_)
  have hs32 : sh15 170 = (16, 12) := (n15.2.2.2 170 (by decide)).1.trans hs28
  have hr33 : ∀ j, rf15 170 j = kRow [(6, 212), (5, 211), (4, 210), (3, 202), (2, 194), (1, 186), (0, 171)] (fun _ => -1) j := fun j => (congrFun (n15.2.2.2 170 (by decide)).2.1 j).trans (hr31 j)
  have hc34 : ∀ j, c15 170 j = kRow [] (kdv 6) j := fun j => (congrFun (n15.2.2.2 170 (by decide)).2.2 j).trans (hc30 j)
  refine kn_putD (kz := 7) rfl fp_X7_7 dX7_init_79 wf_X7_39 hs32 (fun c16 p16 => ?_)
  have hc35 : ∀ j, c16 170 j = kRow [(7, 213)] (kdv 6) j := fun j => (p16.2 j).trans (by rw [hc34 j]; rfl)
  refine kw_aload_n dX7_init_82 rfl ?_
  refine kw_iconst dX7_init_83 ?_
  refine kn_putI (kz := 8) rfl fp_X7_8 dX7_init_84 wf_X7_43 hs32 (fun c17 p17 => ?_)
  have hc36 : ∀ j, c17 170 j = kRow [(8, 0), (7, 213)] (kdv 6) j := fun j => (p17.2 j).trans (by rw [hc35 j]; rfl)
  refine kw_aload_n dX7_init_87 rfl ?_
  refine kw_iconst dX7_init_88 ?_
  refine kn_putI (kz := 9) rfl fp_X7_9 dX7_init_89 wf_X7_47 hs32 (fun c18 p18 => ?_)
  have hc37 : ∀ j, c18 170 j = kRow [(9, 0), (8, 0), (7, 213)] (kdv 6) j := fun j => (p18.2 j).trans (by rw [hc36 j]; rfl)
  refine kw_aload_n dX7_init_92 rfl ?_
  refine kw_iconst dX7_init_93 ?_
  refine kn_putI (kz := 10) rfl fp_X7_10 dX7_init_94 wf_X7_50 hs32 (fun c19 p19 => ?_)
  have hc38 : ∀ j, c19 170 j = kRow [(10, 0), (9, 0), (8, 0), (7, 213)] (kdv 6) j := fun j => (p19.2 j).trans (by rw [hc37 j]; rfl)
  refine kw_aload_n dX7_init_97 rfl ?_
  refine kw_iconst dX7_init_98 ?_
  refine kn_putI (kz := 11) rfl fp_X7_11 dX7_init_99 wf_X7_53 hs32 (fun c20 p20 => ?_)
  have hc39 : ∀ j, c20 170 j = kRow [(11, 0), (10, 0), (9, 0), (8, 0), (7, 213)] (kdv 6) j := fun j => (p20.2 j).trans (by rw [hc38 j]; rfl)
  have fm20 : kSm 170 214 sh15 rf15 c20 sh15 rf15 c20 := kSm.r0
  have fm19 : kSm 170 214 sh15 rf15 c19 sh15 rf15 c20 := (p20.smC).tr fm20 (by decide)
  have fm18 : kSm 170 214 sh15 rf15 c18 sh15 rf15 c20 := (p19.smC).tr fm19 (by decide)
  have fm17 : kSm 170 214 sh15 rf15 c17 sh15 rf15 c20 := (p18.smC).tr fm18 (by decide)
  have fm16 : kSm 170 214 sh15 rf15 c16 sh15 rf15 c20 := (p17.smC).tr fm17 (by decide)
  have fm15 : kSm 170 214 sh15 rf15 c15 sh15 rf15 c20 := (p16.smC).tr fm16 (by decide)
  have fm14 : kSm 170 213 sh13 rf14 c13 sh15 rf15 c20 := (n15.sm (by decide)).tr fm15 (by decide)
  have fm13 : kSm 170 213 sh13 rf13 c13 sh15 rf15 c20 := (p14.smR).tr fm14 (by decide)
  have fm12 : kSm 170 212 sh11 rf12 c11 sh15 rf15 c20 := (n13.sm (by decide)).tr fm13 (by decide)
  have fm11 : kSm 170 212 sh11 rf11 c11 sh15 rf15 c20 := (p12.smR).tr fm12 (by decide)
  have fm10 : kSm 170 211 sh9 rf10 c9 sh15 rf15 c20 := (n11.sm (by decide)).tr fm11 (by decide)
  have fm9 : kSm 170 211 sh9 rf9 c9 sh15 rf15 c20 := (p10.smR).tr fm10 (by decide)
  have fm8 : kSm 170 210 sh7 rf8 c7 sh15 rf15 c20 := (n9.sm (by decide)).tr fm9 (by decide)
  have fm7 : kSm 170 210 sh7 rf7 c7 sh15 rf15 c20 := (p8.smR).tr fm8 (by decide)
  have fm6 : kSm 170 202 sh5 rf6 c5 sh15 rf15 c20 := (n7.sm (by decide)).tr fm7 (by decide)
  have fm5 : kSm 170 202 sh5 rf5 c5 sh15 rf15 c20 := (p6.smR).tr fm6 (by decide)
  have fm4 : kSm 170 194 sh3 rf4 c3 sh15 rf15 c20 := (n5.sm (by decide)).tr fm5 (by decide)
  have fm3 : kSm 170 194 sh3 rf3 c3 sh15 rf15 c20 := (p4.smR).tr fm4 (by decide)
  have fm2 : kSm 170 186 sh1 rf2 c1 sh15 rf15 c20 := (n3.sm (by decide)).tr fm3 (by decide)
  have fm1 : kSm 170 186 sh1 rf1 c1 sh15 rf15 c20 := (p2.smR).tr fm2 (by decide)
  have fm0 : kSm 170 171 sh rf c sh15 rf15 c20 := ((m1.sm (by decide)).tr (b1.sm (by decide)) (Int.le_refl _)).tr fm1 (by decide)
  exact kw_ret dX7_init_102 rfl (k sh15 rf15 c20 hs32 hr33 hc39 (f1_0.sm (fun u p q => ⟨(fm1 u (by omega) (by omega)).1, (fm1 u (by omega) (by omega)).2.1⟩)) (fun j => (congrFun (fm1 185 (by decide) (by decide)).2.2 j).trans (f1_1 j)) (n3.rw.sm (fun u p q => ⟨(fm3 u (by omega) (by omega)).1, (fm3 u (by omega) (by omega)).2.1⟩)) (n5.rw.sm (fun u p q => ⟨(fm5 u (by omega) (by omega)).1, (fm5 u (by omega) (by omega)).2.1⟩)) (n7.rw.sm (fun u p q => ⟨(fm7 u (by omega) (by omega)).1, (fm7 u (by omega) (by omega)).2.1⟩)) ((fm9 210 (by decide) (by decide)).1.trans n9.1) ((fm11 211 (by decide) (by decide)).1.trans n11.1) ((fm13 212 (by decide) (by decide)).1.trans n13.1) ((fm15 213 (by decide) (by decide)).1.trans n15.1) (fm0.bl (by decide)))
set_option maxHeartbeats 2000000 in
theorem n_X4 {G : KG} {d : Nat} {sh : KSf} {rf c : KMem} {Q : Option AV → KSt → Prop} (h0 : sh 528 = (13, 4)) (hr0 : ∀ j, rf 528 j = -1) (hc0 : ∀ j, c 528 j = kdv 3 j) (k : ∀ sh' rf' c', (sh' 528 = (13, 4)) → (∀ j, rf' 528 j = kRow [(3, 532), (2, 531), (1, 530), (0, 529)] (fun _ => -1) j) → (sh' 529 = (2, 16)) → (sh' 530 = (2, 16)) → (sh' 531 = (2, 16)) → (sh' 532 = (2, 16)) → (kEq (c' 529) farP) → kBl 528 sh rf c sh' rf' c' → Q none ((533, sh', rf'), c')) : kCall G kM_X4_init (d + 1) 4 64 [kA 528] ((529, sh, rf), c) Q := by
  refine kMet (by decide) rfl (Nat.le_of_ble_eq_true rfl) ?_
  show kWP G kM_X4_init (d + 1) 4 64 0 [some (kA 528)] [] ((529, sh, rf), c) Q
  refine kw_aload_n dX4_init_0 rfl ?_
  refine kw_objinit dX4_init_1 wl_X4_3 w_oi w_oc h0 (by decide) (by decide) ?_
  refine kw_aload_n dX4_init_4 rfl ?_
  refine kw_bipush dX4_init_5 (by decide) ?_
  refine kn_newL (bc := 3) (bs := 48) (A := 529) (N' := 530) 16 rfl rfl rfl dX4_init_7 (by decide) (fun sh1 rf1 c1 n1 => ?_)
  have hs1 : sh1 528 = (13, 4) := (n1.2.2.2 528 (by decide)).1.trans h0
  have hr2 : ∀ j, rf1 528 j = kRow [] (fun _ => -1) j := fun j => (congrFun (n1.2.2.2 528 (by decide)).2.1 j).trans (hr0 j)
  have hc3 : ∀ j, c1 528 j = kRow [] (kdv 3) j := fun j => (congrFun (n1.2.2.2 528 (by decide)).2.2 j).trans (hc0 j)
  refine kn_putR (kz := 0) rfl fo_X4_0 dX4_init_9 wf_X4_9 hs1 rfl rfl (fun rf2 p2 => ?_)
  have hr4 : ∀ j, rf2 528 j = kRow [(0, 529)] (fun _ => -1) j := fun j => (p2.2 j).trans (by rw [hr2 j]; rfl)
  refine kw_aload_n dX4_init_12 rfl ?_
  refine kw_bipush dX4_init_13 (by decide) ?_
  refine kn_newL (bc := 2) (bs := 32) (A := 530) (N' := 531) 16 rfl rfl rfl dX4_init_15 (by decide) (fun sh3 rf3 c3 n3 => ?_)
  have hs5 : sh3 528 = (13, 4) := (n3.2.2.2 528 (by decide)).1.trans hs1
  have hr6 : ∀ j, rf3 528 j = kRow [(0, 529)] (fun _ => -1) j := fun j => (congrFun (n3.2.2.2 528 (by decide)).2.1 j).trans (hr4 j)
  have hc7 : ∀ j, c3 528 j = kRow [] (kdv 3) j := fun j => (congrFun (n3.2.2.2 528 (by decide)).2.2 j).trans (hc3 j)
  refine kn_putR (kz := 1) rfl fo_X4_1 dX4_init_17 wf_X4_15 hs5 rfl rfl (fun rf4 p4 => ?_)
  have hr8 : ∀ j, rf4 528 j = kRow [(1, 530), (0, 529)] (fun _ => -1) j := fun j => (p4.2 j).trans (by rw [hr6 j]; rfl)
  refine kw_aload_n dX4_init_20 rfl ?_
  refine kw_bipush dX4_init_21 (by decide) ?_
  refine kn_newL (bc := 1) (bs := 16) (A := 531) (N' := 532) 16 rfl rfl rfl dX4_init_23 (by decide) (fun sh5 rf5 c5 n5 => ?_)
  have hs9 : sh5 528 = (13, 4) := (n5.2.2.2 528 (by decide)).1.trans hs5
  have hr10 : ∀ j, rf5 528 j = kRow [(1, 530), (0, 529)] (fun _ => -1) j := fun j => (congrFun (n5.2.2.2 528 (by decide)).2.1 j).trans (hr8 j)
  have hc11 : ∀ j, c5 528 j = kRow [] (kdv 3) j := fun j => (congrFun (n5.2.2.2 528 (by decide)).2.2 j).trans (hc7 j)
  refine kn_putR (kz := 2) rfl fo_X4_2 dX4_init_25 wf_X4_18 hs9 rfl rfl (fun rf6 p6 => ?_)
  have hr12 : ∀ j, rf6 528 j = kRow [(2, 531), (1, 530), (0, 529)] (fun _ => -1) j := fun j => (p6.2 j).trans (by rw [hr10 j]; rfl)
  refine kw_aload_n dX4_init_28 rfl ?_
  refine kw_bipush dX4_init_29 (by decide) ?_
  refine kn_newL (bc := 0) (bs := 0) (A := 532) (N' := 533) 16 rfl rfl rfl dX4_init_31 (by decide) (fun sh7 rf7 c7 n7 => ?_)
  have hs13 : sh7 528 = (13, 4) := (n7.2.2.2 528 (by decide)).1.trans hs9
  have hr14 : ∀ j, rf7 528 j = kRow [(2, 531), (1, 530), (0, 529)] (fun _ => -1) j := fun j => (congrFun (n7.2.2.2 528 (by decide)).2.1 j).trans (hr12 j)
  have hc15 : ∀ j, c7 528 j = kRow [] (kdv 3) j := fun j => (congrFun (n7.2.2.2 528 (by decide)).2.2 j).trans (hc11 j)
  refine kn_putR (kz := 3) rfl fo_X4_3 dX4_init_33 wf_X4_21 hs13 rfl rfl (fun rf8 p8 => ?_)
  have hr16 : ∀ j, rf8 528 j = kRow [(3, 532), (2, 531), (1, 530), (0, 529)] (fun _ => -1) j := fun j => (p8.2 j).trans (by rw [hr14 j]; rfl)
  refine kw_aload_n dX4_init_36 rfl ?_
  refine kn_getR (kz := 0) (v := 529) rfl fd_X4_0 dX4_init_37 wf_X4_9 hs13 ((hr16 0).trans rfl) ?_
  refine kw_iconst dX4_init_40 ?_
  refine kw_lconst1 dX4_init_41 ?_
  have fm8 : kSm 528 533 sh7 rf8 c7 sh7 rf8 c7 := kSm.r0
  have fm7 : kSm 528 533 sh7 rf7 c7 sh7 rf8 c7 := (p8.smR).tr fm8 (by decide)
  have fm6 : kSm 528 532 sh5 rf6 c5 sh7 rf8 c7 := (n7.sm (by decide)).tr fm7 (by decide)
  have fm5 : kSm 528 532 sh5 rf5 c5 sh7 rf8 c7 := (p6.smR).tr fm6 (by decide)
  have fm4 : kSm 528 531 sh3 rf4 c3 sh7 rf8 c7 := (n5.sm (by decide)).tr fm5 (by decide)
  have fm3 : kSm 528 531 sh3 rf3 c3 sh7 rf8 c7 := (p4.smR).tr fm4 (by decide)
  have fm2 : kSm 528 530 sh1 rf2 c1 sh7 rf8 c7 := (n3.sm (by decide)).tr fm3 (by decide)
  have fm1 : kSm 528 530 sh1 rf1 c1 sh7 rf8 c7 := (p2.smR).tr fm2 (by decide)
  have fm0 : kSm 528 529 sh rf c sh7 rf8 c7 := (n1.sm (by decide)).tr fm1 (by decide)
  refine kn_last dX4_init_42 ((fm1 529 (by decide) (by decide)).1.trans n1.1) (by decide) ⟨by decide, by decide⟩ (fun cc1 pp1 => ?_)
  refine kw_aload_n dX4_init_43 rfl ?_
  refine kn_getR (kz := 0) (v := 529) rfl fd_X4_0 dX4_init_44 wf_X4_9 hs13 ((hr16 0).trans rfl) ?_
  refine kw_bipush dX4_init_47 (by decide) ?_
  refine kw_lconst1 dX4_init_49 ?_
  refine kn_last dX4_init_50 ((fm1 529 (by decide) (by decide)).1.trans n1.1) (by decide) ⟨by decide, by decide⟩ (fun cc2 pp2 => ?_)
  have z0 : ∀ j, c7 529 j = 0 := fun j => (congrFun (fm1 529 (by decide) (by decide)).2.2 j).trans (n1.2.2.1 j)
  have far : kEq (cc2 529) farP := fun j p q => by rw [pp2.2 j, pp1.2 j, z0 j]; exact far_2 j
  exact kw_ret dX4_init_51 rfl (k sh7 rf8 cc2 hs13 hr16 ((fm1 529 (by decide) (by decide)).1.trans n1.1) ((fm3 530 (by decide) (by decide)).1.trans n3.1) ((fm5 531 (by decide) (by decide)).1.trans n5.1) ((fm7 532 (by decide) (by decide)).1.trans n7.1) far ((fm0.bl (by decide)).tr ((pp1.bl (by decide)).tr (pp2.bl (by decide)))))
set_option maxHeartbeats 2000000 in
theorem n_X2 {G : KG} {d : Nat} {sh : KSf} {rf c : KMem} {Q : Option AV → KSt → Prop} (h0 : sh 533 = (11, 7)) (hr0 : ∀ j, rf 533 j = -1) (hc0 : ∀ j, c 533 j = kdv 1 j) (k : ∀ sh' rf' c', (sh' 533 = (11, 7)) → (∀ j, rf' 533 j = kRow [(6, 552), (5, 551), (4, 550), (3, 549), (2, 548), (1, 547), (0, 534)] (fun _ => -1) j) → (kRwA sh' rf' 534 12) → (sh' 547 = (1, 12)) → (sh' 548 = (1, 12)) → (sh' 549 = (2, 16)) → (sh' 550 = (2, 16)) → (sh' 551 = (2, 16)) → (sh' 552 = (2, 16)) → (kEq (c' 549) farP) → kBl 533 sh rf c sh' rf' c' → Q none ((553, sh', rf'), c')) : kCall G kM_X2_init (d + 1) 19 292 [kA 533] ((534, sh, rf), c) Q := by
  refine kMet (by decide) rfl (Nat.le_of_ble_eq_true rfl) ?_
  show kWP G kM_X2_init (d + 1) 19 292 0 [some (kA 533)] [] ((534, sh, rf), c) Q
  refine kw_aload_n dX2_init_0 rfl ?_
  refine kw_objinit dX2_init_1 wl_X2_3 w_oi w_oc h0 (by decide) (by decide) ?_
  refine kw_aload_n dX2_init_4 rfl ?_
  refine kw_bipush dX2_init_5 (by decide) ?_
  refine kw_bipush dX2_init_7 (by decide) ?_
  refine kn_mnew (bc := 6) (bs := 88) (A := 534) (N' := 547) 12 16 rfl rfl rfl rfl dX2_init_9 wn_X2_9 (by decide) (by decide) (fun sh1 rf1 c1 n1 => ?_)
  have hs1 : sh1 533 = (11, 7) := (n1.2.2 533 (by decide)).1.trans h0
  have hr2 : ∀ j, rf1 533 j = kRow [] (fun _ => -1) j := fun j => (congrFun (n1.2.2 533 (by decide)).2.1 j).trans (hr0 j)
  have hc3 : ∀ j, c1 533 j = kRow [] (kdv 1) j := fun j => (congrFun (n1.2.2 533 (by decide)).2.2 j).trans (hc0 j)
  refine kn_putR (kz := 0) rfl fo_X2_0 dX2_init_13 wf_X2_11 hs1 rfl rfl (fun rf2 p2 => ?_)
  have hr4 : ∀ j, rf2 533 j = kRow [(0, 534)] (fun _ => -1) j := fun j => (p2.2 j).trans (by rw [hr2 j]; rfl)
  refine kw_aload_n dX2_init_16 rfl ?_
  refine kw_bipush dX2_init_17 (by decide) ?_
  refine kn_newI (bc := 5) (bs := 76) (A := 547) (N' := 548) 12 rfl rfl rfl dX2_init_19 (by decide) (fun sh3 rf3 c3 n3 => ?_)
  have hs5 : sh3 533 = (11, 7) := (n3.2.2.2 533 (by decide)).1.trans hs1
  have hr6 : ∀ j, rf3 533 j = kRow [(0, 534)] (fun _ => -1) j := fun j => (congrFun (n3.2.2.2 533 (by decide)).2.1 j).trans (hr4 j)
  have hc7 : ∀ j, c3 533 j = kRow [] (kdv 1) j := fun j => (congrFun (n3.2.2.2 533 (by decide)).2.2 j).trans (hc3 j)
  refine kn_putR (kz := 1) rfl fo_X2_1 dX2_init_21 wf_X2_16 hs5 rfl rfl (fun rf4 p4 => ?_)
  have hr8 : ∀ j, rf4 533 j = kRow [(1, 547), (0, 534)] (fun _ => -1) j := fun j => (p4.2 j).trans (by rw [hr6 j]; rfl)
  refine kw_aload_n dX2_init_24 rfl ?_
  refine kw_bipush dX2_init_25 (by decide) ?_
  refine kn_newI (bc := 4) (bs := 64) (A := 548) (N' := 549) 12 rfl rfl rfl dX2_init_27 (by decide) (fun sh5 rf5 c5 n5 => ?_)
  have hs9 : sh5 533 = (11, 7) := (n5.2.2.2 533 (by decide)).1.trans hs5
  have hr10 : ∀ j, rf5 533 j = kRow [(1, 547), (0, 534)] (fun _ => -1) j := fun j => (congrFun (n5.2.2.2 533 (by decide)).2.1 j).trans (hr8 j)
  have hc11 : ∀ j, c5 533 j = kRow [] (kdv 1) j := fun j => (congrFun (n5.2.2.2 533 (by decide)).2.2 j).trans (hc7 j)
  refine kn_putR (kz := 2) rfl fo_X2_2 dX2_init_29 wf_X2_20 hs9 rfl rfl (fun rf6 p6 => ?_)
  have hr12 : ∀ j, rf6 533 j = kRow [(2, 548), (1, 547), (0, 534)] (fun _ => -1) j := fun j => (p6.2 j).trans (by rw [hr10 j]; rfl)
  refine kw_aload_n dX2_init_32 rfl ?_
  refine kw_bipush dX2_init_33 (by decide) ?_
  refine kn_newL (bc := 3) (bs := 48) (A := 549) (N' := 550) 16 rfl rfl rfl dX2_init_35 (by decide) (fun sh7 rf7 c7 n7 => ?_)
  have hs13 : sh7 533 = (11, 7) := (n7.2.2.2 533 (by decide)).1.trans hs9
  have hr14 : ∀ j, rf7 533 j = kRow [(2, 548), (1, 547), (0, 534)] (fun _ => -1) j := fun j => (congrFun (n7.2.2.2 533 (by decide)).2.1 j).trans (hr12 j)
  have hc15 : ∀ j, c7 533 j = kRow [] (kdv 1) j := fun j => (congrFun (n7.2.2.2 533 (by decide)).2.2 j).trans (hc11 j)
  refine kn_putR (kz := 3) rfl fo_X2_3 dX2_init_37 wf_X2_23 hs13 rfl rfl (fun rf8 p8 => ?_)
  have hr16 : ∀ j, rf8 533 j = kRow [(3, 549), (2, 548), (1, 547), (0, 534)] (fun _ => -1) j := fun j => (p8.2 j).trans (by rw [hr14 j]; rfl)
  refine kw_aload_n dX2_init_40 rfl ?_
  refine kw_bipush dX2_init_41 (by decide) ?_
  refine kn_newL (bc := 2) (bs := 32) (A := 550) (N' := 551) 16 rfl rfl rfl dX2_init_43 (by decide) (fun sh9 rf9 c9 n9 => ?_)
  have hs17 : sh9 533 = (11, 7) := (n9.2.2.2 533 (by decide)).1.trans hs13
  have hr18 : ∀ j, rf9 533 j = kRow [(3, 549), (2, 548), (1, 547), (0, 534)] (fun _ => -1) j := fun j => (congrFun (n9.2.2.2 533 (by decide)).2.1 j).trans (hr16 j)
  have hc19 : ∀ j, c9 533 j = kRow [] (kdv 1) j := fun j => (congrFun (n9.2.2.2 533 (by decide)).2.2 j).trans (hc15 j)
  refine kn_putR (kz := 4) rfl fo_X2_4 dX2_init_45 wf_X2_27 hs17 rfl rfl (fun rf10 p10 => ?_)
  have hr20 : ∀ j, rf10 533 j = kRow [(4, 550), (3, 549), (2, 548), (1, 547), (0, 534)] (fun _ => -1) j := fun j => (p10.2 j).trans (by rw [hr18 j]; rfl)
  refine kw_aload_n dX2_init_48 rfl ?_
  refine kw_bipush dX2_init_49 (by decide) ?_
  refine kn_newL (bc := 1) (bs := 16) (A := 551) (N' := 552) 16 rfl rfl rfl dX2_init_51 (by decide) (fun sh11 rf11 c11 n11 => ?_)
  have hs21 : sh11 533 = (11, 7) := (n11.2.2.2 533 (by decide)).1.trans hs17
  have hr22 : ∀ j, rf11 533 j = kRow [(4, 550), (3, 549), (2, 548), (1, 547), (0, 534)] (fun _ => -1) j := fun j => (congrFun (n11.2.2.2 533 (by decide)).2.1 j).trans (hr20 j)
  have hc23 : ∀ j, c11 533 j = kRow [] (kdv 1) j := fun j => (congrFun (n11.2.2.2 533 (by decide)).2.2 j).trans (hc19 j)
  refine kn_putR (kz := 5) rfl fo_X2_5 dX2_init_53 wf_X2_30 hs21 rfl rfl (fun rf12 p12 => ?_)
  have hr24 : ∀ j, rf12 533 j = kRow [(5, 551), (4, 550), (3, 549), (2, 548), (1, 547), (0, 534)] (fun _ => -1) j := fun j => (p12.2 j).trans (by rw [hr22 j]; rfl)
  refine kw_aload_n dX2_init_56 rfl ?_
  refine kw_bipush dX2_init_57 (by decide) ?_
  refine kn_newL (bc := 0) (bs := 0) (A := 552) (N' := 553) 16 rfl rfl rfl dX2_init_59 (by decide) (fun sh13 rf13 c13 n13 => ?_)
  have hs25 : sh13 533 = (11, 7) := (n13.2.2.2 533 (by decide)).1.trans hs21
  have hr26 : ∀ j, rf13 533 j = kRow [(5, 551), (4, 550), (3, 549), (2, 548), (1, 547), (0, 534)] (fun _ => -1) j := fun j => (congrFun (n13.2.2.2 533 (by decide)).2.1 j).trans (hr24 j)
  have hc27 : ∀ j, c13 533 j = kRow [] (kdv 1) j := fun j => (congrFun (n13.2.2.2 533 (by decide)).2.2 j).trans (hc23 j)
  refine kn_putR (kz := 6) rfl fo_X2_6 dX2_init_61 wf_X2_33 hs25 rfl rfl (fun rf14 p14 => ?_)
  have hr28 : ∀ j, rf14 533 j = kRow [(6, 552), (5, 551), (4, 550), (3, 549), (2, 548), (1, 547), (0, 534)] (fun _ => -1) j := fun j => (p14.2 j).trans (by rw [hr26 j]; rfl)
  refine kw_aload_n dX2_init_64 rfl ?_
  refine kn_getR (kz := 3) (v := 549) rfl fd_X2_3 dX2_init_65 wf_X2_23 hs25 ((hr28 3).trans rfl) ?_
  refine kw_iconst dX2_init_68 ?_
  refine kw_lconst1 dX2_init_69 ?_
  have fm14 : kSm 533 553 sh13 rf14 c13 sh13 rf14 c13 := kSm.r0
  have fm13 : kSm 533 553 sh13 rf13 c13 sh13 rf14 c13 := (p14.smR).tr fm14 (by decide)
  have fm12 : kSm 533 552 sh11 rf12 c11 sh13 rf14 c13 := (n13.sm (by decide)).tr fm13 (by decide)
  have fm11 : kSm 533 552 sh11 rf11 c11 sh13 rf14 c13 := (p12.smR).tr fm12 (by decide)
  have fm10 : kSm 533 551 sh9 rf10 c9 sh13 rf14 c13 := (n11.sm (by decide)).tr fm11 (by decide)
  have fm9 : kSm 533 551 sh9 rf9 c9 sh13 rf14 c13 := (p10.smR).tr fm10 (by decide)
  have fm8 : kSm 533 550 sh7 rf8 c7 sh13 rf14 c13 := (n9.sm (by decide)).tr fm9 (by decide)
  have fm7 : kSm 533 550 sh7 rf7 c7 sh13 rf14 c13 := (p8.smR).tr fm8 (by decide)
  have fm6 : kSm 533 549 sh5 rf6 c5 sh13 rf14 c13 := (n7.sm (by decide)).tr fm7 (by decide)
  have fm5 : kSm 533 549 sh5 rf5 c5 sh13 rf14 c13 := (p6.smR).tr fm6 (by decide)
  have fm4 : kSm 533 548 sh3 rf4 c3 sh13 rf14 c13 := (n5.sm (by decide)).tr fm5 (by decide)
  have fm3 : kSm 533 548 sh3 rf3 c3 sh13 rf14 c13 := (p4.smR).tr fm4 (by decide)
  have fm2 : kSm 533 547 sh1 rf2 c1 sh13 rf14 c13 := (n3.sm (by decide)).tr fm3 (by decide)
  have fm1 : kSm 533 547 sh1 rf1 c1 sh13 rf14 c13 := (p2.smR).tr fm2 (by decide)
  have fm0 : kSm 533 534 sh rf c sh13 rf14 c13 := (n1.sm (by decide)).tr fm1 (by decide)
  refine kn_last dX2_init_70 ((fm7 549 (by decide) (by decide)).1.trans n7.1) (by decide) ⟨by decide, by decide⟩ (fun cc1 pp1 => ?_)
  refine kw_aload_n dX2_init_71 rfl ?_
  refine kn_getR (kz := 3) (v := 549) rfl fd_X2_3 dX2_init_72 wf_X2_23 hs25 ((hr28 3).trans rfl) ?_
  refine kw_bipush dX2_init_75 (by decide) ?_
  refine kw_lconst1 dX2_init_77 ?_
  refine kn_last dX2_init_78 ((fm7 549 (by decide) (by decide)).1.trans n7.1) (by decide) ⟨by decide, by decide⟩ (fun cc2 pp2 => ?_)
  have z0 : ∀ j, c13 549 j = 0 := fun j => (congrFun (fm7 549 (by decide) (by decide)).2.2 j).trans (n7.2.2.1 j)
  have far : kEq (cc2 549) farP := fun j p q => by rw [pp2.2 j, pp1.2 j, z0 j]; exact far_2 j
  exact kw_ret dX2_init_79 rfl (k sh13 rf14 cc2 hs25 hr28 (n1.rw.sm (fun u p q => ⟨(fm1 u (by omega) (by omega)).1, (fm1 u (by omega) (by omega)).2.1⟩)) ((fm3 547 (by decide) (by decide)).1.trans n3.1) ((fm5 548 (by decide) (by decide)).1.trans n5.1) ((fm7 549 (by decide) (by decide)).1.trans n7.1) ((fm9 550 (by decide) (by decide)).1.trans n9.1) ((fm11 551 (by decide) (by decide)).1.trans n11.1) ((fm13 552 (by decide) (by decide)).1.trans n13.1) far ((fm0.bl (by decide)).tr ((pp1.bl (by decide)).tr (pp2.bl (by decide)))))
