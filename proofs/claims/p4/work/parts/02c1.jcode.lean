set_option maxRecDepth 100000 in
theorem jwc_1 : Cond.code jq_1.1 jq_1.2.1 jq_1.2.2.1 jq_1.2.2.2.1 ∈ jm_gw := List.mem_filter.mpr ⟨jtabs_ok 1 _ (List.mem_of_getElem? (i := 119) rfl), rfl⟩
set_option maxRecDepth 100000 in
theorem jwc_2 : Cond.code jq_2.1 jq_2.2.1 jq_2.2.2.1 jq_2.2.2.2.1 ∈ jm_gw := List.mem_filter.mpr ⟨jtabs_ok 5 _ (List.mem_of_getElem? (i := 148) rfl), rfl⟩
set_option maxRecDepth 100000 in
theorem jwc_3 : Cond.code jq_3.1 jq_3.2.1 jq_3.2.2.1 jq_3.2.2.2.1 ∈ jm_gw := List.mem_filter.mpr ⟨jtabs_ok 3 _ (List.mem_of_getElem? (i := 152) rfl), rfl⟩
set_option maxRecDepth 100000 in
theorem jwc_4 : Cond.code jq_4.1 jq_4.2.1 jq_4.2.2.1 jq_4.2.2.2.1 ∈ jm_gw := List.mem_filter.mpr ⟨jtabs_ok 4 _ (List.mem_of_getElem? (i := 68) rfl), rfl⟩
set_option maxRecDepth 100000 in
theorem jwc_5 : Cond.code jq_5.1 jq_5.2.1 jq_5.2.2.1 jq_5.2.2.2.1 ∈ jm_gw := List.mem_filter.mpr ⟨jtabs_ok 4 _ (List.mem_of_getElem? (i := 41) rfl), rfl⟩
set_option maxRecDepth 100000 in
theorem jwc_6 : Cond.code jq_6.1 jq_6.2.1 jq_6.2.2.1 jq_6.2.2.2.1 ∈ jm_gw := List.mem_filter.mpr ⟨jtabs_ok 4 _ (List.mem_of_getElem? (i := 25) rfl), rfl⟩
set_option maxRecDepth 100000 in
theorem jwc_7 : Cond.code jq_7.1 jq_7.2.1 jq_7.2.2.1 jq_7.2.2.2.1 ∈ jm_gw := List.mem_filter.mpr ⟨jtabs_ok 3 _ (List.mem_of_getElem? (i := 140) rfl), rfl⟩
set_option maxRecDepth 100000 in
theorem jwc_8 : Cond.code jq_8.1 jq_8.2.1 jq_8.2.2.1 jq_8.2.2.2.1 ∈ jm_gw := List.mem_filter.mpr ⟨jtabs_ok 3 _ (List.mem_of_getElem? (i := 171) rfl), rfl⟩
set_option maxRecDepth 100000 in
theorem jwc_9 : Cond.code jq_9.1 jq_9.2.1 jq_9.2.2.1 jq_9.2.2.2.1 ∈ jm_gw := List.mem_filter.mpr ⟨jtabs_ok 3 _ (List.mem_of_getElem? (i := 188) rfl), rfl⟩
set_option maxRecDepth 100000 in
theorem jwc_10 : Cond.code jq_10.1 jq_10.2.1 jq_10.2.2.1 jq_10.2.2.2.1 ∈ jm_gw := List.mem_filter.mpr ⟨jtabs_ok 3 _ (List.mem_of_getElem? (i := 192) rfl), rfl⟩
set_option maxRecDepth 100000 in
theorem jwc_11 : Cond.code jq_11.1 jq_11.2.1 jq_11.2.2.1 jq_11.2.2.2.1 ∈ jm_gw := List.mem_filter.mpr ⟨jtabs_ok 3 _ (List.mem_of_getElem? (i := 175) rfl), rfl⟩
set_option maxRecDepth 100000 in
theorem jwc_12 : Cond.code jq_12.1 jq_12.2.1 jq_12.2.2.1 jq_12.2.2.2.1 ∈ jm_gw := List.mem_filter.mpr ⟨jtabs_ok 3 _ (List.mem_of_getElem? (i := 224) rfl), rfl⟩
set_option maxRecDepth 100000 in
theorem jwc_13 : Cond.code jq_13.1 jq_13.2.1 jq_13.2.2.1 jq_13.2.2.2.1 ∈ jm_gw := List.mem_filter.mpr ⟨jtabs_ok 3 _ (List.mem_of_getElem? (i := 237) rfl), rfl⟩
set_option maxRecDepth 100000 in
theorem jwc_14 : Cond.code jq_14.1 jq_14.2.1 jq_14.2.2.1 jq_14.2.2.2.1 ∈ jm_gw := List.mem_filter.mpr ⟨jtabs_ok 4 _ (List.mem_of_getElem? (i := 10) rfl), rfl⟩
set_option maxRecDepth 100000 in
theorem jwc_15 : Cond.code jq_15.1 jq_15.2.1 jq_15.2.2.1 jq_15.2.2.2.1 ∈ jm_gw := List.mem_filter.mpr ⟨jtabs_ok 4 _ (List.mem_of_getElem? (i := 29) rfl), rfl⟩
set_option maxRecDepth 100000 in
theorem jwc_16 : Cond.code jq_16.1 jq_16.2.1 jq_16.2.2.1 jq_16.2.2.2.1 ∈ jm_gw := List.mem_filter.mpr ⟨jtabs_ok 4 _ (List.mem_of_getElem? (i := 76) rfl), rfl⟩
set_option maxRecDepth 100000 in
theorem jwc_17 : Cond.code jq_17.1 jq_17.2.1 jq_17.2.2.1 jq_17.2.2.2.1 ∈ jm_gw := List.mem_filter.mpr ⟨jtabs_ok 4 _ (List.mem_of_getElem? (i := 201) rfl), rfl⟩
set_option maxRecDepth 100000 in
theorem jwc_18 : Cond.code jq_18.1 jq_18.2.1 jq_18.2.2.1 jq_18.2.2.2.1 ∈ jm_gw := List.mem_filter.mpr ⟨jtabs_ok 4 _ (List.mem_of_getElem? (i := 72) rfl), rfl⟩
set_option maxRecDepth 100000 in
theorem jwc_19 : Cond.code jq_19.1 jq_19.2.1 jq_19.2.2.1 jq_19.2.2.2.1 ∈ jm_gw := List.mem_filter.mpr ⟨jtabs_ok 4 _ (List.mem_of_getElem? (i := 227) rfl), rfl⟩
set_option maxRecDepth 100000 in
theorem jwc_20 : Cond.code jq_20.1 jq_20.2.1 jq_20.2.2.1 jq_20.2.2.2.1 ∈ jm_gw := List.mem_filter.mpr ⟨jtabs_ok 5 _ (List.mem_of_getElem? (i := 45) rfl), rfl⟩
set_option maxRecDepth 100000 in
theorem jwc_21 : Cond.code jq_21.1 jq_21.2.1 jq_21.2.2.1 jq_21.2.2.2.1 ∈ jm_gw := List.mem_filter.mpr ⟨jtabs_ok 4 _ (List.mem_of_getElem? (i := 92) rfl), rfl⟩
set_option maxRecDepth 100000 in
theorem jwc_22 : Cond.code jq_22.1 jq_22.2.1 jq_22.2.2.1 jq_22.2.2.2.1 ∈ jm_gw := List.mem_filter.mpr ⟨jtabs_ok 5 _ (List.mem_of_getElem? (i := 26) rfl), rfl⟩
set_option maxRecDepth 100000 in
theorem jwc_23 : Cond.code jq_23.1 jq_23.2.1 jq_23.2.2.1 jq_23.2.2.2.1 ∈ jm_gw := List.mem_filter.mpr ⟨jtabs_ok 5 _ (List.mem_of_getElem? (i := 21) rfl), rfl⟩
set_option maxRecDepth 100000 in
theorem jwc_24 : Cond.code jq_24.1 jq_24.2.1 jq_24.2.2.1 jq_24.2.2.2.1 ∈ jm_gw := List.mem_filter.mpr ⟨jtabs_ok 4 _ (List.mem_of_getElem? (i := 213) rfl), rfl⟩
set_option maxRecDepth 100000 in
theorem jwc_25 : Cond.code jq_25.1 jq_25.2.1 jq_25.2.2.1 jq_25.2.2.2.1 ∈ jm_gw := List.mem_filter.mpr ⟨jtabs_ok 4 _ (List.mem_of_getElem? (i := 217) rfl), rfl⟩
set_option maxRecDepth 100000 in
theorem jwc_26 : Cond.code jq_26.1 jq_26.2.1 jq_26.2.2.1 jq_26.2.2.2.1 ∈ jm_gw := List.mem_filter.mpr ⟨jtabs_ok 4 _ (List.mem_of_getElem? (i := 223) rfl), rfl⟩
set_option maxRecDepth 100000 in
theorem jwc_27 : Cond.code jq_27.1 jq_27.2.1 jq_27.2.2.1 jq_27.2.2.2.1 ∈ jm_gw := List.mem_filter.mpr ⟨jtabs_ok 4 _ (List.mem_of_getElem? (i := 231) rfl), rfl⟩
set_option maxRecDepth 100000 in
theorem jwc_28 : Cond.code jq_28.1 jq_28.2.1 jq_28.2.2.1 jq_28.2.2.2.1 ∈ jm_gw := List.mem_filter.mpr ⟨jtabs_ok 2 _ (List.mem_of_getElem? (i := 206) rfl), rfl⟩
set_option maxRecDepth 100000 in
theorem jwc_29 : Cond.code jq_29.1 jq_29.2.1 jq_29.2.2.1 jq_29.2.2.2.1 ∈ jm_gw := List.mem_filter.mpr ⟨jtabs_ok 5 _ (List.mem_of_getElem? (i := 12) rfl), rfl⟩
set_option maxRecDepth 100000 in
theorem jwc_30 : Cond.code jq_30.1 jq_30.2.1 jq_30.2.2.1 jq_30.2.2.2.1 ∈ jm_gw := List.mem_filter.mpr ⟨jtabs_ok 5 _ (List.mem_of_getElem? (i := 17) rfl), rfl⟩
set_option maxRecDepth 100000 in
theorem jwc_31 : Cond.code jq_31.1 jq_31.2.1 jq_31.2.2.1 jq_31.2.2.2.1 ∈ jm_gw := List.mem_filter.mpr ⟨jtabs_ok 5 _ (List.mem_of_getElem? (i := 67) rfl), rfl⟩
set_option maxRecDepth 100000 in
theorem jwc_32 : Cond.code jq_32.1 jq_32.2.1 jq_32.2.2.1 jq_32.2.2.2.1 ∈ jm_gw := List.mem_filter.mpr ⟨jtabs_ok 5 _ (List.mem_of_getElem? (i := 71) rfl), rfl⟩
set_option maxRecDepth 100000 in
theorem jwc_33 : Cond.code jq_33.1 jq_33.2.1 jq_33.2.2.1 jq_33.2.2.2.1 ∈ jm_gw := List.mem_filter.mpr ⟨jtabs_ok 5 _ (List.mem_of_getElem? (i := 79) rfl), rfl⟩
set_option maxRecDepth 100000 in
theorem jwc_34 : Cond.code jq_34.1 jq_34.2.1 jq_34.2.2.1 jq_34.2.2.2.1 ∈ jm_gw := List.mem_filter.mpr ⟨jtabs_ok 5 _ (List.mem_of_getElem? (i := 75) rfl), rfl⟩
set_option maxRecDepth 100000 in
theorem jwc_35 : Cond.code jq_35.1 jq_35.2.1 jq_35.2.2.1 jq_35.2.2.2.1 ∈ jm_gw := List.mem_filter.mpr ⟨jtabs_ok 5 _ (List.mem_of_getElem? (i := 83) rfl), rfl⟩
set_option maxRecDepth 100000 in
theorem jwc_36 : Cond.code jq_36.1 jq_36.2.1 jq_36.2.2.1 jq_36.2.2.2.1 ∈ jm_gw := List.mem_filter.mpr ⟨jtabs_ok 5 _ (List.mem_of_getElem? (i := 87) rfl), rfl⟩
set_option maxRecDepth 100000 in
theorem jwc_37 : Cond.code jq_37.1 jq_37.2.1 jq_37.2.2.1 jq_37.2.2.2.1 ∈ jm_gw := List.mem_filter.mpr ⟨jtabs_ok 5 _ (List.mem_of_getElem? (i := 93) rfl), rfl⟩
set_option maxRecDepth 100000 in
theorem jwc_38 : Cond.code jq_38.1 jq_38.2.1 jq_38.2.2.1 jq_38.2.2.2.1 ∈ jm_gw := List.mem_filter.mpr ⟨jtabs_ok 1 _ (List.mem_of_getElem? (i := 219) rfl), rfl⟩
set_option maxRecDepth 100000 in
theorem jwc_39 : Cond.code jq_39.1 jq_39.2.1 jq_39.2.2.1 jq_39.2.2.2.1 ∈ jm_gw := List.mem_filter.mpr ⟨jtabs_ok 4 _ (List.mem_of_getElem? (i := 45) rfl), rfl⟩
set_option maxRecDepth 100000 in
theorem jwc_40 : Cond.code jq_40.1 jq_40.2.1 jq_40.2.2.1 jq_40.2.2.2.1 ∈ jm_gw := List.mem_filter.mpr ⟨jtabs_ok 1 _ (List.mem_of_getElem? (i := 135) rfl), rfl⟩
set_option maxRecDepth 100000 in
theorem jwc_41 : Cond.code jq_41.1 jq_41.2.1 jq_41.2.2.1 jq_41.2.2.2.1 ∈ jm_gw := List.mem_filter.mpr ⟨jtabs_ok 3 _ (List.mem_of_getElem? (i := 196) rfl), rfl⟩
set_option maxRecDepth 100000 in
theorem jwc_42 : Cond.code jq_42.1 jq_42.2.1 jq_42.2.2.1 jq_42.2.2.2.1 ∈ jm_gw := List.mem_filter.mpr ⟨jtabs_ok 3 _ (List.mem_of_getElem? (i := 200) rfl), rfl⟩
set_option maxRecDepth 100000 in
theorem jwc_43 : Cond.code jq_43.1 jq_43.2.1 jq_43.2.2.1 jq_43.2.2.2.1 ∈ jm_gw := List.mem_filter.mpr ⟨jtabs_ok 3 _ (List.mem_of_getElem? (i := 213) rfl), rfl⟩
set_option maxRecDepth 100000 in
theorem jwc_44 : Cond.code jq_44.1 jq_44.2.1 jq_44.2.2.1 jq_44.2.2.2.1 ∈ jm_gw := List.mem_filter.mpr ⟨jtabs_ok 2 _ (List.mem_of_getElem? (i := 78) rfl), rfl⟩
set_option maxRecDepth 100000 in
theorem jwc_45 : Cond.code jq_45.1 jq_45.2.1 jq_45.2.2.1 jq_45.2.2.2.1 ∈ jm_gw := List.mem_filter.mpr ⟨jtabs_ok 4 _ (List.mem_of_getElem? (i := 96) rfl), rfl⟩
set_option maxRecDepth 100000 in
theorem jwc_46 : Cond.code jq_46.1 jq_46.2.1 jq_46.2.2.1 jq_46.2.2.2.1 ∈ jm_gw := List.mem_filter.mpr ⟨jtabs_ok 4 _ (List.mem_of_getElem? (i := 186) rfl), rfl⟩
set_option maxRecDepth 100000 in
theorem jwc_47 : Cond.code jq_47.1 jq_47.2.1 jq_47.2.2.1 jq_47.2.2.2.1 ∈ jm_gw := List.mem_filter.mpr ⟨jtabs_ok 4 _ (List.mem_of_getElem? (i := 105) rfl), rfl⟩
set_option maxRecDepth 100000 in
theorem jwc_48 : Cond.code jq_48.1 jq_48.2.1 jq_48.2.2.1 jq_48.2.2.2.1 ∈ jm_gw := List.mem_filter.mpr ⟨jtabs_ok 4 _ (List.mem_of_getElem? (i := 124) rfl), rfl⟩
set_option maxRecDepth 100000 in
theorem jwc_49 : Cond.code jq_49.1 jq_49.2.1 jq_49.2.2.1 jq_49.2.2.2.1 ∈ jm_gw := List.mem_filter.mpr ⟨jtabs_ok 4 _ (List.mem_of_getElem? (i := 120) rfl), rfl⟩
set_option maxRecDepth 100000 in
theorem jwc_50 : Cond.code jq_50.1 jq_50.2.1 jq_50.2.2.1 jq_50.2.2.2.1 ∈ jm_gw := List.mem_filter.mpr ⟨jtabs_ok 4 _ (List.mem_of_getElem? (i := 115) rfl), rfl⟩
set_option maxRecDepth 100000 in
theorem jwc_51 : Cond.code jq_51.1 jq_51.2.1 jq_51.2.2.1 jq_51.2.2.2.1 ∈ jm_gw := List.mem_filter.mpr ⟨jtabs_ok 4 _ (List.mem_of_getElem? (i := 101) rfl), rfl⟩
set_option maxRecDepth 100000 in
theorem jwc_52 : Cond.code jq_52.1 jq_52.2.1 jq_52.2.2.1 jq_52.2.2.2.1 ∈ jm_gw := List.mem_filter.mpr ⟨jtabs_ok 4 _ (List.mem_of_getElem? (i := 130) rfl), rfl⟩
set_option maxRecDepth 100000 in
theorem jwc_53 : Cond.code jq_53.1 jq_53.2.1 jq_53.2.2.1 jq_53.2.2.2.1 ∈ jm_gw := List.mem_filter.mpr ⟨jtabs_ok 4 _ (List.mem_of_getElem? (i := 134) rfl), rfl⟩
set_option maxRecDepth 100000 in
theorem jwc_54 : Cond.code jq_54.1 jq_54.2.1 jq_54.2.2.1 jq_54.2.2.2.1 ∈ jm_gw := List.mem_filter.mpr ⟨jtabs_ok 4 _ (List.mem_of_getElem? (i := 143) rfl), rfl⟩
set_option maxRecDepth 100000 in
theorem jwc_55 : Cond.code jq_55.1 jq_55.2.1 jq_55.2.2.1 jq_55.2.2.2.1 ∈ jm_gw := List.mem_filter.mpr ⟨jtabs_ok 4 _ (List.mem_of_getElem? (i := 139) rfl), rfl⟩
set_option maxRecDepth 100000 in
theorem jwc_56 : Cond.code jq_56.1 jq_56.2.1 jq_56.2.2.1 jq_56.2.2.2.1 ∈ jm_gw := List.mem_filter.mpr ⟨jtabs_ok 4 _ (List.mem_of_getElem? (i := 178) rfl), rfl⟩
set_option maxRecDepth 100000 in
theorem jwc_57 : Cond.code jq_57.1 jq_57.2.1 jq_57.2.2.1 jq_57.2.2.2.1 ∈ jm_gw := List.mem_filter.mpr ⟨jtabs_ok 4 _ (List.mem_of_getElem? (i := 182) rfl), rfl⟩
set_option maxRecDepth 100000 in
theorem jwc_58 : Cond.code jq_58.1 jq_58.2.1 jq_58.2.2.1 jq_58.2.2.2.1 ∈ jm_gw := List.mem_filter.mpr ⟨jtabs_ok 4 _ (List.mem_of_getElem? (i := 190) rfl), rfl⟩
set_option maxRecDepth 100000 in
theorem jwc_59 : Cond.code jq_59.1 jq_59.2.1 jq_59.2.2.1 jq_59.2.2.2.1 ∈ jm_gw := List.mem_filter.mpr ⟨jtabs_ok 1 _ (List.mem_of_getElem? (i := 128) rfl), rfl⟩
set_option maxRecDepth 100000 in
theorem jwc_60 : Cond.code jq_60.1 jq_60.2.1 jq_60.2.2.1 jq_60.2.2.2.1 ∈ jm_gw := List.mem_filter.mpr ⟨jtabs_ok 3 _ (List.mem_of_getElem? (i := 144) rfl), rfl⟩
set_option maxRecDepth 100000 in
theorem jwc_61 : Cond.code jq_61.1 jq_61.2.1 jq_61.2.2.1 jq_61.2.2.2.1 ∈ jm_gw := List.mem_filter.mpr ⟨jtabs_ok 3 _ (List.mem_of_getElem? (i := 163) rfl), rfl⟩
set_option maxRecDepth 100000 in
theorem jwc_62 : Cond.code jq_62.1 jq_62.2.1 jq_62.2.2.1 jq_62.2.2.2.1 ∈ jm_gw := List.mem_filter.mpr ⟨jtabs_ok 3 _ (List.mem_of_getElem? (i := 184) rfl), rfl⟩
set_option maxRecDepth 100000 in
theorem jwc_63 : Cond.code jq_63.1 jq_63.2.1 jq_63.2.2.1 jq_63.2.2.2.1 ∈ jm_gw := List.mem_filter.mpr ⟨jtabs_ok 3 _ (List.mem_of_getElem? (i := 180) rfl), rfl⟩
set_option maxRecDepth 100000 in
theorem jwc_64 : Cond.code jq_64.1 jq_64.2.1 jq_64.2.2.1 jq_64.2.2.2.1 ∈ jm_gw := List.mem_filter.mpr ⟨jtabs_ok 4 _ (List.mem_of_getElem? (i := 5) rfl), rfl⟩
set_option maxRecDepth 100000 in
theorem jwc_65 : Cond.code jq_65.1 jq_65.2.1 jq_65.2.2.1 jq_65.2.2.2.1 ∈ jm_gw := List.mem_filter.mpr ⟨jtabs_ok 2 _ (List.mem_of_getElem? (i := 72) rfl), rfl⟩
set_option maxRecDepth 100000 in
theorem jwc_66 : Cond.code jq_66.1 jq_66.2.1 jq_66.2.2.1 jq_66.2.2.2.1 ∈ jm_gw := List.mem_filter.mpr ⟨jtabs_ok 4 _ (List.mem_of_getElem? (i := 53) rfl), rfl⟩
set_option maxRecDepth 100000 in
theorem jwc_67 : Cond.code jq_67.1 jq_67.2.1 jq_67.2.2.1 jq_67.2.2.2.1 ∈ jm_gw := List.mem_filter.mpr ⟨jtabs_ok 4 _ (List.mem_of_getElem? (i := 84) rfl), rfl⟩
set_option maxRecDepth 100000 in
theorem jwc_68 : Cond.code jq_68.1 jq_68.2.1 jq_68.2.2.1 jq_68.2.2.2.1 ∈ jm_gw := List.mem_filter.mpr ⟨jtabs_ok 4 _ (List.mem_of_getElem? (i := 88) rfl), rfl⟩
set_option maxRecDepth 100000 in
theorem jwc_69 : Cond.code jq_69.1 jq_69.2.1 jq_69.2.2.1 jq_69.2.2.2.1 ∈ jm_gw := List.mem_filter.mpr ⟨jtabs_ok 4 _ (List.mem_of_getElem? (i := 111) rfl), rfl⟩
set_option maxRecDepth 100000 in
theorem jwc_70 : Cond.code jq_70.1 jq_70.2.1 jq_70.2.2.1 jq_70.2.2.2.1 ∈ jm_gw := List.mem_filter.mpr ⟨jtabs_ok 4 _ (List.mem_of_getElem? (i := 80) rfl), rfl⟩
set_option maxRecDepth 100000 in
theorem jwc_71 : Cond.code jq_71.1 jq_71.2.1 jq_71.2.2.1 jq_71.2.2.2.1 ∈ jm_gw := List.mem_filter.mpr ⟨jtabs_ok 4 _ (List.mem_of_getElem? (i := 239) rfl), rfl⟩
set_option maxRecDepth 100000 in
theorem jwc_72 : Cond.code jq_72.1 jq_72.2.1 jq_72.2.2.1 jq_72.2.2.2.1 ∈ jm_gw := List.mem_filter.mpr ⟨jtabs_ok 5 _ (List.mem_of_getElem? (i := 127) rfl), rfl⟩
set_option maxRecDepth 100000 in
theorem jwc_73 : Cond.code jq_73.1 jq_73.2.1 jq_73.2.2.1 jq_73.2.2.2.1 ∈ jm_gw := List.mem_filter.mpr ⟨jtabs_ok 4 _ (List.mem_of_getElem? (i := 152) rfl), rfl⟩
set_option maxRecDepth 100000 in
theorem jwc_74 : Cond.code jq_74.1 jq_74.2.1 jq_74.2.2.1 jq_74.2.2.2.1 ∈ jm_gw := List.mem_filter.mpr ⟨jtabs_ok 4 _ (List.mem_of_getElem? (i := 156) rfl), rfl⟩
set_option maxRecDepth 100000 in
theorem jwc_75 : Cond.code jq_75.1 jq_75.2.1 jq_75.2.2.1 jq_75.2.2.2.1 ∈ jm_gw := List.mem_filter.mpr ⟨jtabs_ok 4 _ (List.mem_of_getElem? (i := 161) rfl), rfl⟩
set_option maxRecDepth 100000 in
theorem jwc_76 : Cond.code jq_76.1 jq_76.2.1 jq_76.2.2.1 jq_76.2.2.2.1 ∈ jm_gw := List.mem_filter.mpr ⟨jtabs_ok 2 _ (List.mem_of_getElem? (i := 167) rfl), rfl⟩
set_option maxRecDepth 100000 in
theorem jwc_77 : Cond.code jq_77.1 jq_77.2.1 jq_77.2.2.1 jq_77.2.2.2.1 ∈ jm_gw := List.mem_filter.mpr ⟨jtabs_ok 5 _ (List.mem_of_getElem? (i := 110) rfl), rfl⟩
set_option maxRecDepth 100000 in
theorem jwc_78 : Cond.code jq_78.1 jq_78.2.1 jq_78.2.2.1 jq_78.2.2.2.1 ∈ jm_gw := List.mem_filter.mpr ⟨jtabs_ok 5 _ (List.mem_of_getElem? (i := 122) rfl), rfl⟩
set_option maxRecDepth 100000 in
theorem jwc_79 : Cond.code jq_79.1 jq_79.2.1 jq_79.2.2.1 jq_79.2.2.2.1 ∈ jm_gw := List.mem_filter.mpr ⟨jtabs_ok 3 _ (List.mem_of_getElem? (i := 228) rfl), rfl⟩
set_option maxRecDepth 100000 in
theorem jwc_80 : Cond.code jq_80.1 jq_80.2.1 jq_80.2.2.1 jq_80.2.2.2.1 ∈ jm_gw := List.mem_filter.mpr ⟨jtabs_ok 5 _ (List.mem_of_getElem? (i := 7) rfl), rfl⟩
