section
set_option maxRecDepth 100000 in
theorem jd_6 : ∀ e ∈ jt_6, decode cX0_hasVariable e.1 = .ok e.2 := by decide +kernel
set_option maxRecDepth 100000 in
theorem jd_7 : ∀ e ∈ jt_7, decode cX0_newRole e.1 = .ok e.2 := by decide +kernel
set_option maxRecDepth 100000 in
theorem jd_8 : ∀ e ∈ jt_8, decode cX0_mayBeEvent e.1 = .ok e.2 := by decide +kernel
set_option maxRecDepth 100000 in
theorem jd_9 : ∀ e ∈ jt_9, decode cX0_newEvent e.1 = .ok e.2 := by decide +kernel
set_option maxRecDepth 100000 in
theorem jd_10 : ∀ e ∈ jt_10, decode cX0_bindIn e.1 = .ok e.2 := by decide +kernel
set_option maxRecDepth 100000 in
theorem jd_11_0 : ∀ e ∈ jt_11_0, decode cX0_listVariables e.1 = .ok e.2 := by decide +kernel
set_option maxRecDepth 100000 in
theorem jd_11_1 : ∀ e ∈ jt_11_1, decode cX0_listVariables e.1 = .ok e.2 := by decide +kernel
theorem jd_11 : ∀ e ∈ jt_11, decode cX0_listVariables e.1 = .ok e.2 := jd_app jd_11_0 (jd_11_1)
set_option maxRecDepth 100000 in
theorem jd_12 : ∀ e ∈ jt_12, decode cX0_isKnown e.1 = .ok e.2 := by decide +kernel
set_option maxRecDepth 100000 in
theorem jd_13 : ∀ e ∈ jt_13, decode cX0_learn e.1 = .ok e.2 := by decide +kernel
set_option maxRecDepth 100000 in
theorem jd_14_0 : ∀ e ∈ jt_14_0, decode cX0_newSession e.1 = .ok e.2 := by decide +kernel
set_option maxRecDepth 100000 in
theorem jd_14_1 : ∀ e ∈ jt_14_1, decode cX0_newSession e.1 = .ok e.2 := by decide +kernel
set_option maxRecDepth 100000 in
theorem jd_14_2 : ∀ e ∈ jt_14_2, decode cX0_newSession e.1 = .ok e.2 := by decide +kernel
end
section
set_option maxRecDepth 100000 in
theorem jd_14_3 : ∀ e ∈ jt_14_3, decode cX0_newSession e.1 = .ok e.2 := by decide +kernel
theorem jd_14 : ∀ e ∈ jt_14, decode cX0_newSession e.1 = .ok e.2 := jd_app jd_14_0 (jd_app jd_14_1 (jd_app jd_14_2 (jd_14_3)))
set_option maxRecDepth 100000 in
theorem jd_15 : ∀ e ∈ jt_15, decode cX0_newClaim e.1 = .ok e.2 := by decide +kernel
set_option maxRecDepth 100000 in
theorem jd_16 : ∀ e ∈ jt_16, decode cX0_doneBy e.1 = .ok e.2 := by decide +kernel
set_option maxRecDepth 100000 in
theorem jd_17 : ∀ e ∈ jt_17, decode cX0_valueOf e.1 = .ok e.2 := by decide +kernel
set_option maxRecDepth 100000 in
theorem jd_18 : ∀ e ∈ jt_18, decode cX0_due e.1 = .ok e.2 := by decide +kernel
set_option maxRecDepth 100000 in
theorem jd_19 : ∀ e ∈ jt_19, decode cX0_hasDoneAll e.1 = .ok e.2 := by decide +kernel
set_option maxRecDepth 100000 in
theorem jd_20 : ∀ e ∈ jt_20, decode cX0_allHaveDoneAll e.1 = .ok e.2 := by decide +kernel
set_option maxRecDepth 100000 in
theorem jd_21 : ∀ e ∈ jt_21, decode cX0_beginKnowledge e.1 = .ok e.2 := by decide +kernel
set_option maxRecDepth 100000 in
theorem jd_22_0 : ∀ e ∈ jt_22_0, decode cX0_fillKnowledge e.1 = .ok e.2 := by decide +kernel
set_option maxRecDepth 100000 in
theorem jd_22_1 : ∀ e ∈ jt_22_1, decode cX0_fillKnowledge e.1 = .ok e.2 := by decide +kernel
theorem jd_22 : ∀ e ∈ jt_22, decode cX0_fillKnowledge e.1 = .ok e.2 := jd_app jd_22_0 (jd_22_1)
set_option maxRecDepth 100000 in
theorem jd_23 : ∀ e ∈ jt_23, decode cX0_hasSecrets e.1 = .ok e.2 := by decide +kernel
set_option maxRecDepth 100000 in
theorem jd_24 : ∀ e ∈ jt_24, decode cX0_breaks e.1 = .ok e.2 := by decide +kernel
set_option maxRecDepth 100000 in
theorem jd_25 : ∀ e ∈ jt_25, decode cX0_leaks e.1 = .ok e.2 := by decide +kernel
set_option maxRecDepth 100000 in
theorem jd_26_0 : ∀ e ∈ jt_26_0, decode cX0_canPartner e.1 = .ok e.2 := by decide +kernel
set_option maxRecDepth 100000 in
theorem jd_26_1 : ∀ e ∈ jt_26_1, decode cX0_canPartner e.1 = .ok e.2 := by decide +kernel
end
section
set_option maxRecDepth 100000 in
theorem jd_26_2 : ∀ e ∈ jt_26_2, decode cX0_canPartner e.1 = .ok e.2 := by decide +kernel
theorem jd_26 : ∀ e ∈ jt_26, decode cX0_canPartner e.1 = .ok e.2 := jd_app jd_26_0 (jd_app jd_26_1 (jd_26_2))
set_option maxRecDepth 100000 in
theorem jd_27 : ∀ e ∈ jt_27, decode cX0_isPartner e.1 = .ok e.2 := by decide +kernel
set_option maxRecDepth 100000 in
theorem jd_28 : ∀ e ∈ jt_28, decode cX1_init e.1 = .ok e.2 := by decide +kernel
set_option maxRecDepth 100000 in
theorem jd_29 : ∀ e ∈ jt_29, decode cX1_listOptions e.1 = .ok e.2 := by decide +kernel
set_option maxRecDepth 100000 in
theorem jd_30 : ∀ e ∈ jt_30, decode cX1_addOption e.1 = .ok e.2 := by decide +kernel
set_option maxRecDepth 100000 in
theorem jd_31 : ∀ e ∈ jt_31, decode cX1_waysOf e.1 = .ok e.2 := by decide +kernel
set_option maxRecDepth 100000 in
theorem jd_32 : ∀ e ∈ jt_32, decode cX1_first e.1 = .ok e.2 := by decide +kernel
set_option maxRecDepth 100000 in
theorem jd_33 : ∀ e ∈ jt_33, decode cX1_next e.1 = .ok e.2 := by decide +kernel
set_option maxRecDepth 100000 in
theorem jd_34 : ∀ e ∈ jt_34, decode cX1_choose e.1 = .ok e.2 := by decide +kernel
set_option maxRecDepth 100000 in
theorem jd_35 : ∀ e ∈ jt_35, decode cX1_weigh e.1 = .ok e.2 := by decide +kernel
set_option maxRecDepth 100000 in
theorem jd_36_0 : ∀ e ∈ jt_36_0, decode cX1_valueOf e.1 = .ok e.2 := by decide +kernel
set_option maxRecDepth 100000 in
theorem jd_36_1 : ∀ e ∈ jt_36_1, decode cX1_valueOf e.1 = .ok e.2 := by decide +kernel
end
section
theorem jd_36 : ∀ e ∈ jt_36, decode cX1_valueOf e.1 = .ok e.2 := jd_app jd_36_0 (jd_36_1)
set_option maxRecDepth 100000 in
theorem jd_37_0 : ∀ e ∈ jt_37_0, decode cX1_canCompose e.1 = .ok e.2 := by decide +kernel
set_option maxRecDepth 100000 in
theorem jd_37_1 : ∀ e ∈ jt_37_1, decode cX1_canCompose e.1 = .ok e.2 := by decide +kernel
theorem jd_37 : ∀ e ∈ jt_37, decode cX1_canCompose e.1 = .ok e.2 := jd_app jd_37_0 (jd_37_1)
set_option maxRecDepth 100000 in
theorem jd_38 : ∀ e ∈ jt_38, decode cX2_init e.1 = .ok e.2 := by decide +kernel
set_option maxRecDepth 100000 in
theorem jd_39 : ∀ e ∈ jt_39, decode cX2_tie e.1 = .ok e.2 := by decide +kernel
set_option maxRecDepth 100000 in
theorem jd_40 : ∀ e ∈ jt_40, decode cX3_init e.1 = .ok e.2 := by decide +kernel
set_option maxRecDepth 100000 in
theorem jd_41_0 : ∀ e ∈ jt_41_0, decode cX3_plan e.1 = .ok e.2 := by decide +kernel
set_option maxRecDepth 100000 in
theorem jd_41_1 : ∀ e ∈ jt_41_1, decode cX3_plan e.1 = .ok e.2 := by decide +kernel
theorem jd_41 : ∀ e ∈ jt_41, decode cX3_plan e.1 = .ok e.2 := jd_app jd_41_0 (jd_41_1)
set_option maxRecDepth 100000 in
theorem jd_42 : ∀ e ∈ jt_42, decode cX3_markParts e.1 = .ok e.2 := by decide +kernel
set_option maxRecDepth 100000 in
theorem jd_43 : ∀ e ∈ jt_43, decode cX3_levelOf e.1 = .ok e.2 := by decide +kernel
set_option maxRecDepth 100000 in
theorem jd_44 : ∀ e ∈ jt_44, decode cX4_init e.1 = .ok e.2 := by decide +kernel
set_option maxRecDepth 100000 in
theorem jd_45 : ∀ e ∈ jt_45, decode cX4_start e.1 = .ok e.2 := by decide +kernel
end
section
set_option maxRecDepth 100000 in
theorem jd_46 : ∀ e ∈ jt_46, decode cX4_isUnnumbered e.1 = .ok e.2 := by decide +kernel
set_option maxRecDepth 100000 in
theorem jd_47 : ∀ e ∈ jt_47, decode cX4_has e.1 = .ok e.2 := by decide +kernel
set_option maxRecDepth 100000 in
theorem jd_48 : ∀ e ∈ jt_48, decode cX4_find e.1 = .ok e.2 := by decide +kernel
set_option maxRecDepth 100000 in
theorem jd_49_0 : ∀ e ∈ jt_49_0, decode cX4_findOrPut e.1 = .ok e.2 := by decide +kernel
set_option maxRecDepth 100000 in
theorem jd_49_1 : ∀ e ∈ jt_49_1, decode cX4_findOrPut e.1 = .ok e.2 := by decide +kernel
set_option maxRecDepth 100000 in
theorem jd_49_2 : ∀ e ∈ jt_49_2, decode cX4_findOrPut e.1 = .ok e.2 := by decide +kernel
theorem jd_49 : ∀ e ∈ jt_49, decode cX4_findOrPut e.1 = .ok e.2 := jd_app jd_49_0 (jd_app jd_49_1 (jd_49_2))
set_option maxRecDepth 100000 in
theorem jd_50_0 : ∀ e ∈ jt_50_0, decode cX4_groundOf e.1 = .ok e.2 := by decide +kernel
set_option maxRecDepth 100000 in
theorem jd_50_1 : ∀ e ∈ jt_50_1, decode cX4_groundOf e.1 = .ok e.2 := by decide +kernel
theorem jd_50 : ∀ e ∈ jt_50, decode cX4_groundOf e.1 = .ok e.2 := jd_app jd_50_0 (jd_50_1)
set_option maxRecDepth 100000 in
theorem jd_51_0 : ∀ e ∈ jt_51_0, decode cX4_add e.1 = .ok e.2 := by decide +kernel
set_option maxRecDepth 100000 in
theorem jd_51_1 : ∀ e ∈ jt_51_1, decode cX4_add e.1 = .ok e.2 := by decide +kernel
set_option maxRecDepth 100000 in
theorem jd_51_2 : ∀ e ∈ jt_51_2, decode cX4_add e.1 = .ok e.2 := by decide +kernel
theorem jd_51 : ∀ e ∈ jt_51, decode cX4_add e.1 = .ok e.2 := jd_app jd_51_0 (jd_app jd_51_1 (jd_51_2))
set_option maxRecDepth 100000 in
theorem jd_52 : ∀ e ∈ jt_52, decode cX4_takeApart e.1 = .ok e.2 := by decide +kernel
end
section
set_option maxRecDepth 100000 in
theorem jd_53_0 : ∀ e ∈ jt_53_0, decode cX4_takeApartAt e.1 = .ok e.2 := by decide +kernel
set_option maxRecDepth 100000 in
theorem jd_53_1 : ∀ e ∈ jt_53_1, decode cX4_takeApartAt e.1 = .ok e.2 := by decide +kernel
theorem jd_53 : ∀ e ∈ jt_53, decode cX4_takeApartAt e.1 = .ok e.2 := jd_app jd_53_0 (jd_53_1)
set_option maxRecDepth 100000 in
theorem jd_54 : ∀ e ∈ jt_54, decode cX4_hasPrivateOf e.1 = .ok e.2 := by decide +kernel
set_option maxRecDepth 100000 in
theorem jd_55_0 : ∀ e ∈ jt_55_0, decode cX4_canMake e.1 = .ok e.2 := by decide +kernel
set_option maxRecDepth 100000 in
theorem jd_55_1 : ∀ e ∈ jt_55_1, decode cX4_canMake e.1 = .ok e.2 := by decide +kernel
set_option maxRecDepth 100000 in
theorem jd_55_2 : ∀ e ∈ jt_55_2, decode cX4_canMake e.1 = .ok e.2 := by decide +kernel
theorem jd_55 : ∀ e ∈ jt_55, decode cX4_canMake e.1 = .ok e.2 := jd_app jd_55_0 (jd_app jd_55_1 (jd_55_2))
set_option maxRecDepth 100000 in
theorem jd_56 : ∀ e ∈ jt_56, decode cX4_missingFor e.1 = .ok e.2 := by decide +kernel
set_option maxRecDepth 100000 in
theorem jd_57 : ∀ e ∈ jt_57, decode cX4_want e.1 = .ok e.2 := by decide +kernel
set_option maxRecDepth 100000 in
theorem jd_58 : ∀ e ∈ jt_58, decode cX4_giveNumber e.1 = .ok e.2 := by decide +kernel
set_option maxRecDepth 100000 in
theorem jd_59 : ∀ e ∈ jt_59, decode cX5_init e.1 = .ok e.2 := by decide +kernel
set_option maxRecDepth 100000 in
theorem jd_60 : ∀ e ∈ jt_60, decode cX5_empty e.1 = .ok e.2 := by decide +kernel
set_option maxRecDepth 100000 in
theorem jd_61 : ∀ e ∈ jt_61, decode cX5_tell e.1 = .ok e.2 := by decide +kernel
end
section
set_option maxRecDepth 100000 in
theorem jd_62 : ∀ e ∈ jt_62, decode cX5_has e.1 = .ok e.2 := by decide +kernel
set_option maxRecDepth 100000 in
theorem jd_63 : ∀ e ∈ jt_63, decode cX5_waitsFor e.1 = .ok e.2 := by decide +kernel
set_option maxRecDepth 100000 in
theorem jd_64 : ∀ e ∈ jt_64, decode cX5_countOf e.1 = .ok e.2 := by decide +kernel
set_option maxRecDepth 100000 in
theorem jd_65 : ∀ e ∈ jt_65, decode cX6_init e.1 = .ok e.2 := by decide +kernel
set_option maxRecDepth 100000 in
theorem jd_66 : ∀ e ∈ jt_66, decode cX6_start e.1 = .ok e.2 := by decide +kernel
set_option maxRecDepth 100000 in
theorem jd_67 : ∀ e ∈ jt_67, decode cX6_intruder e.1 = .ok e.2 := by decide +kernel
set_option maxRecDepth 100000 in
theorem jd_68_0 : ∀ e ∈ jt_68_0, decode cX6_gather e.1 = .ok e.2 := by decide +kernel
set_option maxRecDepth 100000 in
theorem jd_68_1 : ∀ e ∈ jt_68_1, decode cX6_gather e.1 = .ok e.2 := by decide +kernel
theorem jd_68 : ∀ e ∈ jt_68, decode cX6_gather e.1 = .ok e.2 := jd_app jd_68_0 (jd_68_1)
set_option maxRecDepth 100000 in
theorem jd_69 : ∀ e ∈ jt_69, decode cX6_eventOf e.1 = .ok e.2 := by decide +kernel
set_option maxRecDepth 100000 in
theorem jd_70 : ∀ e ∈ jt_70, decode cX6_step e.1 = .ok e.2 := by decide +kernel
set_option maxRecDepth 100000 in
theorem jd_71_0 : ∀ e ∈ jt_71_0, decode cX6_takeBack e.1 = .ok e.2 := by decide +kernel
set_option maxRecDepth 100000 in
theorem jd_71_1 : ∀ e ∈ jt_71_1, decode cX6_takeBack e.1 = .ok e.2 := by decide +kernel
theorem jd_71 : ∀ e ∈ jt_71, decode cX6_takeBack e.1 = .ok e.2 := jd_app jd_71_0 (jd_71_1)
set_option maxRecDepth 100000 in
theorem jd_72 : ∀ e ∈ jt_72, decode cX6_follow e.1 = .ok e.2 := by decide +kernel
set_option maxRecDepth 100000 in
theorem jd_73 : ∀ e ∈ jt_73, decode cX6_accepts e.1 = .ok e.2 := by decide +kernel
end
