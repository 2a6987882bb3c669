def jm_gw : List Cond := lw_tbl.filter goodWord
def jtabs (c : Nat) : List Cond := match c with
  | 0 => k2_sels lw_privs
  | 1 => tables_1_1
  | 2 => tables_1_2
  | 3 => tables_1_3
  | 4 => tables_1_4
  | 5 => tables_1_5
  | 6 => tables_1_6
  | 7 => tables_1_7
  | 8 => tables_1_8
  | _ => []
theorem jtabs_ok : ∀ (c : Nat) (w : Cond), w ∈ jtabs c → w ∈ lw_tbl := by
  intro c w h
  unfold jtabs at h
  split at h
  · exact List.mem_append_left _ h
  · exact List.mem_append_right _ (List.mem_append_left _ h)
  · exact List.mem_append_right _ (List.mem_append_right _ (List.mem_append_left _ h))
  · exact List.mem_append_right _ (List.mem_append_right _ (List.mem_append_right _ (List.mem_append_left _ h)))
  · exact List.mem_append_right _ (List.mem_append_right _ (List.mem_append_right _ (List.mem_append_right _ (List.mem_append_left _ h))))
  · exact List.mem_append_right _ (List.mem_append_right _ (List.mem_append_right _ (List.mem_append_right _ (List.mem_append_right _ (List.mem_append_left _ h)))))
  · exact List.mem_append_right _ (List.mem_append_right _ (List.mem_append_right _ (List.mem_append_right _ (List.mem_append_right _ (List.mem_append_right _ (List.mem_append_left _ h))))))
  · exact List.mem_append_right _ (List.mem_append_right _ (List.mem_append_right _ (List.mem_append_right _ (List.mem_append_right _ (List.mem_append_right _ (List.mem_append_right _ (List.mem_append_left _ h)))))))
  · exact List.mem_append_right _ (List.mem_append_right _ (List.mem_append_right _ (List.mem_append_right _ (List.mem_append_right _ (List.mem_append_right _ (List.mem_append_right _ (List.mem_append_right _ (h))))))))
  · exact absurd h List.not_mem_nil
def jck (i : Nat) (w : Cond) : Bool := decide ((jtabs (i / 1000))[i % 1000]? = some w) && goodWord w
theorem jck_ok {i : Nat} {w : Cond} (h : jck i w = true) : w ∈ jm_gw := by
  unfold jck at h
  rw [Bool.and_eq_true] at h
  exact List.mem_filter.mpr ⟨jtabs_ok _ _ (List.mem_of_getElem? (of_decide_eq_true h.1)), h.2⟩
theorem jm_aty0 : jm_aty 0 = .int := rfl
theorem jm_aty1 : jm_aty 1 = .boolean := rfl
theorem jm_nat2 : 2 ≤ jm_nat := by decide
theorem jm_aref : ∀ t, 2 ≤ t → t < jm_nat → (jm_aty t).isReference = true := by
  intro t h1 h2
  have h2 : t < 6 := h2
  rcases (show t = 2 ∨ t = 3 ∨ t = 4 ∨ t = 5 by omega) with rfl | rfl | rfl | rfl <;> rfl
theorem jm_atyk : ∀ t, 2 ≤ t → t < jm_nat → (∃ C ∈ jm_over, jm_aty t = .object C) ∨ jm_aty t = .array .int := by
  intro t h1 h2
  have h2 : t < 6 := h2
  rcases (show t = 2 ∨ t = 3 ∨ t = 4 ∨ t = 5 by omega) with rfl | rfl | rfl | rfl
  · exact Or.inl ⟨"SealProbe$Role", by decide, rfl⟩
  · exact Or.inl ⟨"SealProbe$Claim", by decide, rfl⟩
  · exact Or.inl ⟨"SealProbe$Event", by decide, rfl⟩
  · exact Or.inr rfl
theorem jm_ael_ok : ∀ t ci, jm_ael t = some ci → ∃ r : vw_C, vwCl[ci]? = some r ∧ jm_aty t = .object r.1 := by
  intro t ci h
  unfold jm_ael at h
  split at h
  · cases h; exact ⟨_, rfl, rfl⟩
  · cases h; exact ⟨_, rfl, rfl⟩
  · cases h; exact ⟨_, rfl, rfl⟩
  · cases h
theorem jm_ar : Cond.arrayClass .int ∈ jm_gw ∧ Cond.arrayClass .boolean ∈ jm_gw := ⟨jck_ok (i := 1113) (by decide +kernel), jck_ok (i := 1114) (by decide +kernel)⟩
theorem jl_0 : ∀ k, k < 14 → jck ([2039, 2041, 2043, 2045, 2047, 2049, 2051, 2053, 2055, 2057, 2059, 2061, 2063, 2065].getD k 0) (u_lay RX0 TX0 k) = true := by decide +kernel
theorem jc_0 : (∀ w ∈ u_ws RX0 TX0 14, w ∈ jm_gw) ∧ (∀ k, k < 14 → parseFieldDescriptor (TX0 k).2.2.1 = some (jm_ty 0 k)) ∧ (∀ a, a < 14 → ∀ b, b < 14 → a ≠ b → (TX0 a).2.1 ≠ (TX0 b).2.1) ∧ Cond.instantiable RX0 14 ∈ jm_gw ∧ Cond.initialized RX0 ∈ jm_gw ∧ jm_nf 0 = 14 ∧ (∀ k, k < 14 → (TX0 k).1 = RX0 ∧ (TX0 k).2.2.2 = jm_fin 0 k) ∧ jm_cn 0 = RX0 := ⟨fun w hw => by obtain ⟨k, hk, rfl⟩ := List.mem_map.mp hw; exact jck_ok (jl_0 k (List.mem_range.mp hk)), tyX0_ok, nmX0, jck_ok (i := 1116) (by decide +kernel), jck_ok (i := 1004) (by decide +kernel), rfl, by decide +kernel, rfl⟩
theorem jl_1 : ∀ k, k < 9 → jck ([2219, 2221, 2223, 2225, 2227, 2229, 2231, 2233, 2235].getD k 0) (u_lay RX1 TX1 k) = true := by decide +kernel
theorem jc_1 : (∀ w ∈ u_ws RX1 TX1 9, w ∈ jm_gw) ∧ (∀ k, k < 9 → parseFieldDescriptor (TX1 k).2.2.1 = some (jm_ty 1 k)) ∧ (∀ a, a < 9 → ∀ b, b < 9 → a ≠ b → (TX1 a).2.1 ≠ (TX1 b).2.1) ∧ Cond.instantiable RX1 9 ∈ jm_gw ∧ Cond.initialized RX1 ∈ jm_gw ∧ jm_nf 1 = 9 ∧ (∀ k, k < 9 → (TX1 k).1 = RX1 ∧ (TX1 k).2.2.2 = jm_fin 1 k) ∧ jm_cn 1 = RX1 := ⟨fun w hw => by obtain ⟨k, hk, rfl⟩ := List.mem_map.mp hw; exact jck_ok (jl_1 k (List.mem_range.mp hk)), tyX1_ok, nmX1, jck_ok (i := 2203) (by decide +kernel), jck_ok (i := 1012) (by decide +kernel), rfl, by decide +kernel, rfl⟩
theorem jl_2 : ∀ k, k < 7 → jck ([1235, 1237, 1239, 2001, 2003, 2005, 2007].getD k 0) (u_lay RX2 TX2 k) = true := by decide +kernel
theorem jc_2 : (∀ w ∈ u_ws RX2 TX2 7, w ∈ jm_gw) ∧ (∀ k, k < 7 → parseFieldDescriptor (TX2 k).2.2.1 = some (jm_ty 2 k)) ∧ (∀ a, a < 7 → ∀ b, b < 7 → a ≠ b → (TX2 a).2.1 ≠ (TX2 b).2.1) ∧ Cond.instantiable RX2 7 ∈ jm_gw ∧ Cond.initialized RX2 ∈ jm_gw ∧ jm_nf 2 = 7 ∧ (∀ k, k < 7 → (TX2 k).1 = RX2 ∧ (TX2 k).2.2.2 = jm_fin 2 k) ∧ jm_cn 2 = RX2 := ⟨fun w hw => by obtain ⟨k, hk, rfl⟩ := List.mem_map.mp hw; exact jck_ok (jl_2 k (List.mem_range.mp hk)), tyX2_ok, nmX2, jck_ok (i := 1216) (by decide +kernel), jck_ok (i := 1007) (by decide +kernel), rfl, by decide +kernel, rfl⟩
theorem jl_3 : ∀ k, k < 8 → jck ([1164, 1166, 1168, 1170, 1172, 1174, 1176, 1178].getD k 0) (u_lay RX3 TX3 k) = true := by decide +kernel
theorem jc_3 : (∀ w ∈ u_ws RX3 TX3 8, w ∈ jm_gw) ∧ (∀ k, k < 8 → parseFieldDescriptor (TX3 k).2.2.1 = some (jm_ty 3 k)) ∧ (∀ a, a < 8 → ∀ b, b < 8 → a ≠ b → (TX3 a).2.1 ≠ (TX3 b).2.1) ∧ Cond.instantiable RX3 8 ∈ jm_gw ∧ Cond.initialized RX3 ∈ jm_gw ∧ jm_nf 3 = 8 ∧ (∀ k, k < 8 → (TX3 k).1 = RX3 ∧ (TX3 k).2.2.2 = jm_fin 3 k) ∧ jm_cn 3 = RX3 := ⟨fun w hw => by obtain ⟨k, hk, rfl⟩ := List.mem_map.mp hw; exact jck_ok (jl_3 k (List.mem_range.mp hk)), tyX3_ok, nmX3, jck_ok (i := 1132) (by decide +kernel), jck_ok (i := 1006) (by decide +kernel), rfl, by decide +kernel, rfl⟩
theorem jl_4 : ∀ k, k < 14 → jck ([2100, 2102, 2104, 2106, 2108, 2110, 2112, 2114, 2116, 2118, 2120, 2122, 2124, 2126].getD k 0) (u_lay RX4 TX4 k) = true := by decide +kernel
theorem jc_4 : (∀ w ∈ u_ws RX4 TX4 14, w ∈ jm_gw) ∧ (∀ k, k < 14 → parseFieldDescriptor (TX4 k).2.2.1 = some (jm_ty 4 k)) ∧ (∀ a, a < 14 → ∀ b, b < 14 → a ≠ b → (TX4 a).2.1 ≠ (TX4 b).2.1) ∧ Cond.instantiable RX4 14 ∈ jm_gw ∧ Cond.initialized RX4 ∈ jm_gw ∧ jm_nf 4 = 14 ∧ (∀ k, k < 14 → (TX4 k).1 = RX4 ∧ (TX4 k).2.2.2 = jm_fin 4 k) ∧ jm_cn 4 = RX4 := ⟨fun w hw => by obtain ⟨k, hk, rfl⟩ := List.mem_map.mp hw; exact jck_ok (jl_4 k (List.mem_range.mp hk)), tyX4_ok, nmX4, jck_ok (i := 2075) (by decide +kernel), jck_ok (i := 1009) (by decide +kernel), rfl, by decide +kernel, rfl⟩
theorem jl_5 : ∀ k, k < 7 → jck ([1201, 1203, 1205, 1207, 1209, 1211, 1213].getD k 0) (u_lay RX5 TX5 k) = true := by decide +kernel
theorem jc_5 : (∀ w ∈ u_ws RX5 TX5 7, w ∈ jm_gw) ∧ (∀ k, k < 7 → parseFieldDescriptor (TX5 k).2.2.1 = some (jm_ty 5 k)) ∧ (∀ a, a < 7 → ∀ b, b < 7 → a ≠ b → (TX5 a).2.1 ≠ (TX5 b).2.1) ∧ Cond.instantiable RX5 7 ∈ jm_gw ∧ Cond.initialized RX5 ∈ jm_gw ∧ jm_nf 5 = 7 ∧ (∀ k, k < 7 → (TX5 k).1 = RX5 ∧ (TX5 k).2.2.2 = jm_fin 5 k) ∧ jm_cn 5 = RX5 := ⟨fun w hw => by obtain ⟨k, hk, rfl⟩ := List.mem_map.mp hw; exact jck_ok (jl_5 k (List.mem_range.mp hk)), tyX5_ok, nmX5, jck_ok (i := 1125) (by decide +kernel), jck_ok (i := 1005) (by decide +kernel), rfl, by decide +kernel, rfl⟩
theorem jl_6 : ∀ k, k < 10 → jck ([2142, 2144, 2146, 2148, 2150, 2152, 2154, 2156, 2158, 2160].getD k 0) (u_lay RX6 TX6 k) = true := by decide +kernel
theorem jc_6 : (∀ w ∈ u_ws RX6 TX6 10, w ∈ jm_gw) ∧ (∀ k, k < 10 → parseFieldDescriptor (TX6 k).2.2.1 = some (jm_ty 6 k)) ∧ (∀ a, a < 10 → ∀ b, b < 10 → a ≠ b → (TX6 a).2.1 ≠ (TX6 b).2.1) ∧ Cond.instantiable RX6 10 ∈ jm_gw ∧ Cond.initialized RX6 ∈ jm_gw ∧ jm_nf 6 = 10 ∧ (∀ k, k < 10 → (TX6 k).1 = RX6 ∧ (TX6 k).2.2.2 = jm_fin 6 k) ∧ jm_cn 6 = RX6 := ⟨fun w hw => by obtain ⟨k, hk, rfl⟩ := List.mem_map.mp hw; exact jck_ok (jl_6 k (List.mem_range.mp hk)), tyX6_ok, nmX6, jck_ok (i := 2069) (by decide +kernel), jck_ok (i := 1008) (by decide +kernel), rfl, by decide +kernel, rfl⟩
theorem jl_7 : ∀ k, k < 13 → jck ([3017, 3019, 3021, 3023, 3025, 3027, 3029, 3031, 3033, 3035, 3037, 3039, 3041].getD k 0) (u_lay RX7 TX7 k) = true := by decide +kernel
theorem jc_7 : (∀ w ∈ u_ws RX7 TX7 13, w ∈ jm_gw) ∧ (∀ k, k < 13 → parseFieldDescriptor (TX7 k).2.2.1 = some (jm_ty 7 k)) ∧ (∀ a, a < 13 → ∀ b, b < 13 → a ≠ b → (TX7 a).2.1 ≠ (TX7 b).2.1) ∧ Cond.instantiable RX7 13 ∈ jm_gw ∧ Cond.initialized RX7 ∈ jm_gw ∧ jm_nf 7 = 13 ∧ (∀ k, k < 13 → (TX7 k).1 = RX7 ∧ (TX7 k).2.2.2 = jm_fin 7 k) ∧ jm_cn 7 = RX7 := ⟨fun w hw => by obtain ⟨k, hk, rfl⟩ := List.mem_map.mp hw; exact jck_ok (jl_7 k (List.mem_range.mp hk)), tyX7_ok, nmX7, jck_ok (i := 2164) (by decide +kernel), jck_ok (i := 1010) (by decide +kernel), rfl, by decide +kernel, rfl⟩
theorem jl_8 : ∀ k, k < 6 → jck ([2187, 2189, 2191, 2193, 2195, 2197].getD k 0) (u_lay RX8 TX8 k) = true := by decide +kernel
theorem jc_8 : (∀ w ∈ u_ws RX8 TX8 6, w ∈ jm_gw) ∧ (∀ k, k < 6 → parseFieldDescriptor (TX8 k).2.2.1 = some (jm_ty 8 k)) ∧ (∀ a, a < 6 → ∀ b, b < 6 → a ≠ b → (TX8 a).2.1 ≠ (TX8 b).2.1) ∧ Cond.instantiable RX8 6 ∈ jm_gw ∧ Cond.initialized RX8 ∈ jm_gw ∧ jm_nf 8 = 6 ∧ (∀ k, k < 6 → (TX8 k).1 = RX8 ∧ (TX8 k).2.2.2 = jm_fin 8 k) ∧ jm_cn 8 = RX8 := ⟨fun w hw => by obtain ⟨k, hk, rfl⟩ := List.mem_map.mp hw; exact jck_ok (jl_8 k (List.mem_range.mp hk)), tyX8_ok, nmX8, jck_ok (i := 2170) (by decide +kernel), jck_ok (i := 1011) (by decide +kernel), rfl, by decide +kernel, rfl⟩
theorem jl_9 : ∀ k, k < 12 → jck ([1088, 1090, 1092, 1094, 1096, 1098, 1100, 1102, 1104, 1106, 1108, 1110].getD k 0) (u_lay RX9 TX9 k) = true := by decide +kernel
theorem jc_9 : (∀ w ∈ u_ws RX9 TX9 12, w ∈ jm_gw) ∧ (∀ k, k < 12 → parseFieldDescriptor (TX9 k).2.2.1 = some (jm_ty 9 k)) ∧ (∀ a, a < 12 → ∀ b, b < 12 → a ≠ b → (TX9 a).2.1 ≠ (TX9 b).2.1) ∧ Cond.instantiable RX9 12 ∈ jm_gw ∧ Cond.initialized RX9 ∈ jm_gw ∧ jm_nf 9 = 12 ∧ (∀ k, k < 12 → (TX9 k).1 = RX9 ∧ (TX9 k).2.2.2 = jm_fin 9 k) ∧ jm_cn 9 = RX9 := ⟨fun w hw => by obtain ⟨k, hk, rfl⟩ := List.mem_map.mp hw; exact jck_ok (jl_9 k (List.mem_range.mp hk)), tyX9_ok, nmX9, jck_ok (i := 1025) (by decide +kernel), jck_ok (i := 1002) (by decide +kernel), rfl, by decide +kernel, rfl⟩
theorem jl_10 : ∀ k, k < 4 → jck ([3048, 3050, 3052, 3054].getD k 0) (u_lay RX10 TX10 k) = true := by decide +kernel
theorem jc_10 : (∀ w ∈ u_ws RX10 TX10 4, w ∈ jm_gw) ∧ (∀ k, k < 4 → parseFieldDescriptor (TX10 k).2.2.1 = some (jm_ty 10 k)) ∧ (∀ a, a < 4 → ∀ b, b < 4 → a ≠ b → (TX10 a).2.1 ≠ (TX10 b).2.1) ∧ Cond.instantiable RX10 4 ∈ jm_gw ∧ Cond.initialized RX10 ∈ jm_gw ∧ jm_nf 10 = 4 ∧ (∀ k, k < 4 → (TX10 k).1 = RX10 ∧ (TX10 k).2.2.2 = jm_fin 10 k) ∧ jm_cn 10 = RX10 := ⟨fun w hw => by obtain ⟨k, hk, rfl⟩ := List.mem_map.mp hw; exact jck_ok (jl_10 k (List.mem_range.mp hk)), tyX10_ok, nmX10, jck_ok (i := 1017) (by decide +kernel), jck_ok (i := 1001) (by decide +kernel), rfl, by decide +kernel, rfl⟩
theorem jl_11 : ∀ k, k < 79 → jck ([6002, 6004, 6006, 6008, 6010, 6012, 6014, 6016, 6018, 6020, 6022, 6024, 6026, 6028, 6030, 6032, 6034, 6036, 6038, 6040, 6042, 6044, 6046, 6048, 6050, 6052, 6054, 6056, 6058, 6060, 6062, 6064, 6066, 6068, 6070, 6072, 6074, 6076, 6078, 6080, 6082, 6084, 6086, 6088, 6090, 6092, 6094, 6096, 6098, 6100, 6102, 6104, 6106, 6108, 6110, 6112, 6114, 6116, 6118, 6120, 6122, 6124, 6126, 6128, 6130, 6132, 6134, 6136, 6138, 6140, 6142, 6144, 6146, 6148, 6150, 6152, 6154, 6156, 6158].getD k 0) (u_lay RX11 TX11 k) = true := by decide +kernel
theorem jc_11 : (∀ w ∈ u_ws RX11 TX11 79, w ∈ jm_gw) ∧ (∀ k, k < 79 → parseFieldDescriptor (TX11 k).2.2.1 = some (jm_ty 11 k)) ∧ (∀ a, a < 79 → ∀ b, b < 79 → a ≠ b → (TX11 a).2.1 ≠ (TX11 b).2.1) ∧ Cond.instantiable RX11 79 ∈ jm_gw ∧ Cond.initialized RX11 ∈ jm_gw ∧ jm_nf 11 = 79 ∧ (∀ k, k < 79 → (TX11 k).1 = RX11 ∧ (TX11 k).2.2.2 = jm_fin 11 k) ∧ jm_cn 11 = RX11 := ⟨fun w hw => by obtain ⟨k, hk, rfl⟩ := List.mem_map.mp hw; exact jck_ok (jl_11 k (List.mem_range.mp hk)), tyX11_ok, nmX11, jck_ok (i := 5154) (by decide +kernel), jck_ok (i := 1013) (by decide +kernel), rfl, by decide +kernel, rfl⟩
theorem jm_cl_ok : ∀ (ci : Nat) (C : String) (T : u_T) (N : Nat), vwCl[ci]? = some (C, T, N) → (∀ w ∈ u_ws C T N, w ∈ jm_gw) ∧ (∀ k, k < N → parseFieldDescriptor (T k).2.2.1 = some (jm_ty ci k)) ∧ (∀ a, a < N → ∀ b, b < N → a ≠ b → (T a).2.1 ≠ (T b).2.1) ∧ Cond.instantiable C N ∈ jm_gw ∧ Cond.initialized C ∈ jm_gw ∧ jm_nf ci = N ∧ (∀ k, k < N → (T k).1 = C ∧ (T k).2.2.2 = jm_fin ci k) ∧ jm_cn ci = C := by
  intro ci C T N h
  match ci, h with
  | 0, h => cases h; exact jc_0
  | 1, h => cases h; exact jc_1
  | 2, h => cases h; exact jc_2
  | 3, h => cases h; exact jc_3
  | 4, h => cases h; exact jc_4
  | 5, h => cases h; exact jc_5
  | 6, h => cases h; exact jc_6
  | 7, h => cases h; exact jc_7
  | 8, h => cases h; exact jc_8
  | 9, h => cases h; exact jc_9
  | 10, h => cases h; exact jc_10
  | 11, h => cases h; exact jc_11
  | k + 12, h => simp [vwCl] at h
theorem jm_fld_all : ∀ k ∈ [0, 1, 2, 3, 4, 5, 6, 7, 8, 9, 10, 11, 12, 13, 14], (jm_fldT k).all (fun e => match vwCl[e.2.1]? with | some q => decide (e.2.2.1 < q.2.2) && jck e.2.2.2 (Cond.fieldLink (jm_cn k) e.1 q.1 (q.2.1 e.2.2.1).2.1 (q.2.1 e.2.2.1).2.2.1) | none => false) = true := by decide +kernel
theorem jm_fld_ok : ∀ k idx ci f, jm_fld k idx = some (ci, f) → ∃ (C : String) (T : u_T) (N : Nat), vwCl[ci]? = some (C, T, N) ∧ f < N ∧ Cond.fieldLink (jm_cn k) idx C (T f).2.1 (T f).2.2.1 ∈ jm_gw := by
  intro k idx ci f h
  unfold jm_fld at h
  obtain ⟨q, hf, hq⟩ := Option.map_eq_some_iff.mp h
  have hm := List.mem_of_find?_eq_some hf
  have hi := List.find?_some hf
  have hk : k ∈ [0, 1, 2, 3, 4, 5, 6, 7, 8, 9, 10, 11, 12, 13, 14] := by
    rcases Nat.lt_or_ge k 15 with h9 | h9
    · have : ∀ k, k < 15 → k ∈ [0, 1, 2, 3, 4, 5, 6, 7, 8, 9, 10, 11, 12, 13, 14] := by decide
      exact this k h9
    · exfalso
      match k, h9, hm with
      | k + 15, _, hm => exact absurd hm List.not_mem_nil
  have hc := List.all_eq_true.mp (jm_fld_all k hk) _ hm
  cases hq
  simp only [beq_iff_eq] at hi
  subst hi
  split at hc
  · next q9 hq9 =>
    rw [Bool.and_eq_true] at hc
    exact ⟨q9.1, q9.2.1, q9.2.2, hq9, of_decide_eq_true hc.1, jck_ok hc.2⟩
  · cases hc
theorem jm_new_all : ∀ k ∈ [0, 1, 2, 3, 4, 5, 6, 7, 8, 9, 10, 11, 12, 13, 14], (jm_newT k).all (fun e => match vwCl[e.2.1]? with | some q => jck e.2.2 (Cond.classLink (jm_cn k) e.1 q.1) | none => false) = true := by decide +kernel
theorem jm_new_ok : ∀ k idx ci, jm_new k idx = some ci → ∃ (C : String) (T : u_T) (N : Nat), vwCl[ci]? = some (C, T, N) ∧ Cond.classLink (jm_cn k) idx C ∈ jm_gw := by
  intro k idx ci h
  unfold jm_new at h
  obtain ⟨q, hf, hq⟩ := Option.map_eq_some_iff.mp h
  have hm := List.mem_of_find?_eq_some hf
  have hi := List.find?_some hf
  have hk : k ∈ [0, 1, 2, 3, 4, 5, 6, 7, 8, 9, 10, 11, 12, 13, 14] := by
    rcases Nat.lt_or_ge k 15 with h9 | h9
    · have : ∀ k, k < 15 → k ∈ [0, 1, 2, 3, 4, 5, 6, 7, 8, 9, 10, 11, 12, 13, 14] := by decide
      exact this k h9
    · exfalso
      match k, h9, hm with
      | k + 15, _, hm => exact absurd hm List.not_mem_nil
  have hc := List.all_eq_true.mp (jm_new_all k hk) _ hm
  cases hq
  simp only [beq_iff_eq] at hi
  subst hi
  split at hc
  · next q9 hq9 => exact ⟨q9.1, q9.2.1, q9.2.2, hq9, jck_ok hc⟩
  · cases hc
theorem jm_anew_all : ∀ k ∈ [0, 1, 2, 3, 4, 5, 6, 7, 8, 9, 10, 11, 12, 13, 14], (jm_anewT k).all (fun e => decide (2 ≤ e.2.1) && (decide (e.2.1 < jm_nat) && (match jm_aty e.2.1 with | .object C => decide (C ∈ jm_over) && jck e.2.2 (Cond.classLink (jm_cn k) e.1 C) | _ => false))) = true := by decide +kernel
theorem jm_anew_ok : ∀ k idx t, jm_anew k idx = some t → 2 ≤ t ∧ t < jm_nat ∧ ∃ C : String, jm_aty t = .object C ∧ C ∈ jm_over ∧ Cond.classLink (jm_cn k) idx C ∈ jm_gw := by
  intro k idx t h
  unfold jm_anew at h
  obtain ⟨q, hf, hq⟩ := Option.map_eq_some_iff.mp h
  have hm := List.mem_of_find?_eq_some hf
  have hi := List.find?_some hf
  have hk : k ∈ [0, 1, 2, 3, 4, 5, 6, 7, 8, 9, 10, 11, 12, 13, 14] := by
    rcases Nat.lt_or_ge k 15 with h9 | h9
    · have : ∀ k, k < 15 → k ∈ [0, 1, 2, 3, 4, 5, 6, 7, 8, 9, 10, 11, 12, 13, 14] := by decide
      exact this k h9
    · exfalso
      match k, h9, hm with
      | k + 15, _, hm => exact absurd hm List.not_mem_nil
  have hc := List.all_eq_true.mp (jm_anew_all k hk) _ hm
  cases hq
  simp only [beq_iff_eq] at hi
  subst hi
  rw [Bool.and_eq_true, Bool.and_eq_true] at hc
  obtain ⟨h1, h2, h3⟩ := hc
  refine ⟨of_decide_eq_true h1, of_decide_eq_true h2, ?_⟩
  split at h3
  · next C hC =>
    rw [Bool.and_eq_true] at h3
    exact ⟨C, hC, of_decide_eq_true h3.1, jck_ok h3.2⟩
  · cases h3
theorem jm_mna_all : ∀ k ∈ [0, 1, 2, 3, 4, 5, 6, 7, 8, 9, 10, 11, 12, 13, 14], (jm_mnaT k).all (fun e => decide (2 ≤ e.2.1) && (decide (e.2.1 < jm_nat) && (decide (jm_aty e.2.1 = .array .int) && jck e.2.2.2 (Cond.classLink (jm_cn k) e.1 "[[I")))) = true := by decide +kernel
theorem jm_mna_ok : ∀ k idx t, jm_mna k idx = some t → 2 ≤ t.1 ∧ t.1 < jm_nat ∧ jm_aty t.1 = .array .int ∧ Cond.classLink (jm_cn k) idx "[[I" ∈ jm_gw ∧ Cond.arrayClass .int ∈ jm_gw := by
  intro k idx t h
  unfold jm_mna at h
  obtain ⟨q, hf, hq⟩ := Option.map_eq_some_iff.mp h
  have hm := List.mem_of_find?_eq_some hf
  have hi := List.find?_some hf
  have hk : k ∈ [0, 1, 2, 3, 4, 5, 6, 7, 8, 9, 10, 11, 12, 13, 14] := by
    rcases Nat.lt_or_ge k 15 with h9 | h9
    · have : ∀ k, k < 15 → k ∈ [0, 1, 2, 3, 4, 5, 6, 7, 8, 9, 10, 11, 12, 13, 14] := by decide
      exact this k h9
    · exfalso
      match k, h9, hm with
      | k + 15, _, hm => exact absurd hm List.not_mem_nil
  have hc := List.all_eq_true.mp (jm_mna_all k hk) _ hm
  cases hq
  simp only [beq_iff_eq] at hi
  subst hi
  rw [Bool.and_eq_true, Bool.and_eq_true, Bool.and_eq_true] at hc
  obtain ⟨h1, h2, h3, h4⟩ := hc
  exact ⟨of_decide_eq_true h1, of_decide_eq_true h2, of_decide_eq_true h3, jck_ok h4, jm_ar.1⟩
theorem jm_lng_all : ∀ k ∈ [0, 1, 2, 3, 4, 5, 6, 7, 8, 9, 10, 11, 12, 13, 14], (jm_lngT k).all (fun e => jck e.2.2 (Cond.constantLong (jm_cn k) e.1 e.2.1)) = true := by decide +kernel
theorem jm_lng_ok : ∀ k idx v, jm_lng k idx = some v → Cond.constantLong (jm_cn k) idx v ∈ jm_gw := by
  intro k idx v h
  unfold jm_lng at h
  obtain ⟨q, hf, hq⟩ := Option.map_eq_some_iff.mp h
  have hm := List.mem_of_find?_eq_some hf
  have hi := List.find?_some hf
  have hk : k ∈ [0, 1, 2, 3, 4, 5, 6, 7, 8, 9, 10, 11, 12, 13, 14] := by
    rcases Nat.lt_or_ge k 15 with h9 | h9
    · have : ∀ k, k < 15 → k ∈ [0, 1, 2, 3, 4, 5, 6, 7, 8, 9, 10, 11, 12, 13, 14] := by decide
      exact this k h9
    · exfalso
      match k, h9, hm with
      | k + 15, _, hm => exact absurd hm List.not_mem_nil
  have hc := List.all_eq_true.mp (jm_lng_all k hk) _ hm
  cases hq
  simp only [beq_iff_eq] at hi
  subst hi
  exact jck_ok hc
theorem jm_oi_all : ∀ k ∈ [0, 1, 2, 3, 4, 5, 6, 7, 8, 9, 10, 11, 12, 13, 14], (jm_oiT k).all (fun e => jck e.2 (Cond.methodLink (jm_cn k) e.1 objectInit)) = true := by decide +kernel
theorem jm_oi_ok : ∀ k idx, jm_oi k idx = true → Cond.methodLink (jm_cn k) idx objectInit ∈ jm_gw ∧ Cond.instanceMethod objectInit ∈ jm_gw ∧ Cond.code objectInit ⟨#[0xb1]⟩ 1 none ∈ jm_gw := by
  intro k idx h
  unfold jm_oi at h
  obtain ⟨q, hf⟩ := Option.isSome_iff_exists.mp h
  have hm := List.mem_of_find?_eq_some hf
  have hi := List.find?_some hf
  have hk : k ∈ [0, 1, 2, 3, 4, 5, 6, 7, 8, 9, 10, 11, 12, 13, 14] := by
    rcases Nat.lt_or_ge k 15 with h9 | h9
    · have : ∀ k, k < 15 → k ∈ [0, 1, 2, 3, 4, 5, 6, 7, 8, 9, 10, 11, 12, 13, 14] := by decide
      exact this k h9
    · exfalso
      match k, h9, hm with
      | k + 15, _, hm => exact absurd hm List.not_mem_nil
  have hc := List.all_eq_true.mp (jm_oi_all k hk) _ hm
  simp only [beq_iff_eq] at hi
  subst hi
  exact ⟨jck_ok hc, jck_ok (i := 1022) (by decide +kernel), jck_ok (i := 1023) (by decide +kernel)⟩
theorem jm_ac_all : ∀ k ∈ [0, 1, 2, 3, 4, 5, 6, 7, 8, 9, 10, 11, 12, 13, 14], (jm_acT k).all (fun e => jck e.2 (Cond.methodLink (jm_cn k) e.1 arraycopyName)) = true := by decide +kernel
theorem jm_ac_ok : ∀ k idx, jm_ac k idx = true → Cond.methodLink (jm_cn k) idx arraycopyName ∈ jm_gw ∧ Cond.native arraycopyName ∈ jm_gw ∧ Cond.static arraycopyName ∈ jm_gw ∧ Cond.initialized "java/lang/System" ∈ jm_gw := by
  intro k idx h
  unfold jm_ac at h
  obtain ⟨q, hf⟩ := Option.isSome_iff_exists.mp h
  have hm := List.mem_of_find?_eq_some hf
  have hi := List.find?_some hf
  have hk : k ∈ [0, 1, 2, 3, 4, 5, 6, 7, 8, 9, 10, 11, 12, 13, 14] := by
    rcases Nat.lt_or_ge k 15 with h9 | h9
    · have : ∀ k, k < 15 → k ∈ [0, 1, 2, 3, 4, 5, 6, 7, 8, 9, 10, 11, 12, 13, 14] := by decide
      exact this k h9
    · exfalso
      match k, h9, hm with
      | k + 15, _, hm => exact absurd hm List.not_mem_nil
  have hc := List.all_eq_true.mp (jm_ac_all k hk) _ hm
  simp only [beq_iff_eq] at hi
  subst hi
  exact ⟨jck_ok hc, jck_ok (i := 4056) (by decide +kernel), jck_ok (i := 4055) (by decide +kernel), jck_ok (i := 1015) (by decide +kernel)⟩
theorem jm_mm_all : ∀ k ∈ [0, 1, 2, 3, 4, 5, 6, 7, 8, 9, 10, 11, 12, 13, 14], (jm_mmT k).all (fun e => jck e.2.2 (Cond.methodLink (jm_cn k) e.1 (if e.2.1 = 1 then Lib.Math.max.name else if e.2.1 = 2 then Jvm.Free.MCB.FloorMod.yN else Lib.Math.min.name))) = true := by decide +kernel
theorem jm_mm_ok : ∀ k idx v, jm_mm k idx = some v → Cond.methodLink (jm_cn k) idx (if v = 1 then Lib.Math.max.name else if v = 2 then Jvm.Free.MCB.FloorMod.yN else Lib.Math.min.name) ∈ jm_gw := by
  intro k idx v h
  unfold jm_mm at h
  obtain ⟨q, hf, hq⟩ := Option.map_eq_some_iff.mp h
  have hm := List.mem_of_find?_eq_some hf
  have hi := List.find?_some hf
  have hk : k ∈ [0, 1, 2, 3, 4, 5, 6, 7, 8, 9, 10, 11, 12, 13, 14] := by
    rcases Nat.lt_or_ge k 15 with h9 | h9
    · have : ∀ k, k < 15 → k ∈ [0, 1, 2, 3, 4, 5, 6, 7, 8, 9, 10, 11, 12, 13, 14] := by decide
      exact this k h9
    · exfalso
      match k, h9, hm with
      | k + 15, _, hm => exact absurd hm List.not_mem_nil
  have hc := List.all_eq_true.mp (jm_mm_all k hk) _ hm
  cases hq
  simp only [beq_iff_eq] at hi
  subst hi
  exact jck_ok hc
theorem jm_max_ok : Cond.static Lib.Math.max.name ∈ jm_gw ∧ Cond.initialized "java/lang/Math" ∈ jm_gw ∧ Cond.code Lib.Math.max.name Lib.Math.max.code 2 (some .int) ∈ jm_gw := ⟨List.mem_filter.mpr ⟨jtabs_ok 3 _ (List.mem_of_getElem? (i := 215) rfl), rfl⟩, List.mem_filter.mpr ⟨jtabs_ok 1 _ (List.mem_of_getElem? (i := 14) rfl), rfl⟩, List.mem_filter.mpr ⟨jtabs_ok 3 _ (List.mem_of_getElem? (i := 216) rfl), rfl⟩⟩
theorem jm_min_ok : Cond.static Lib.Math.min.name ∈ jm_gw ∧ Cond.initialized "java/lang/Math" ∈ jm_gw ∧ Cond.code Lib.Math.min.name Lib.Math.min.code 2 (some .int) ∈ jm_gw := ⟨List.mem_filter.mpr ⟨jtabs_ok 3 _ (List.mem_of_getElem? (i := 203) rfl), rfl⟩, List.mem_filter.mpr ⟨jtabs_ok 1 _ (List.mem_of_getElem? (i := 14) rfl), rfl⟩, List.mem_filter.mpr ⟨jtabs_ok 3 _ (List.mem_of_getElem? (i := 204) rfl), rfl⟩⟩
theorem jm_fmd_ok : Cond.static Jvm.Free.MCB.FloorMod.yN ∈ jm_gw ∧ Cond.initialized "java/lang/Math" ∈ jm_gw ∧ Jvm.Free.MCB.FloorMod.tab ∈ jm_gw := ⟨List.mem_filter.mpr ⟨jtabs_ok 5 _ (List.mem_of_getElem? (i := 139) rfl), rfl⟩, List.mem_filter.mpr ⟨jtabs_ok 1 _ (List.mem_of_getElem? (i := 14) rfl), rfl⟩, List.mem_filter.mpr ⟨jtabs_ok 5 _ (List.mem_of_getElem? (i := 140) rfl), rfl⟩⟩
theorem jm_over_ok : ∀ C ∈ jm_over, Cond.arrayOver (.object C) ∈ lw_tbl := by
  intro C hC
  simp only [jm_over, List.mem_cons, List.not_mem_nil, or_false] at hC
  rcases hC with rfl | rfl | rfl
  · exact jtabs_ok 1 _ (List.mem_of_getElem? (i := 122) rfl)
  · exact jtabs_ok 1 _ (List.mem_of_getElem? (i := 124) rfl)
  · exact jtabs_ok 1 _ (List.mem_of_getElem? (i := 131) rfl)
theorem jm_overA : Cond.arrayOver (.array .int) ∈ lw_tbl := jtabs_ok 2 _ (List.mem_of_getElem? (i := 209) rfl)
theorem jm_nest_in : ∀ w ∈ jm_nest, w ∈ lw_tbl := by
  intro w hw
  simp only [jm_nest, List.mem_cons, List.not_mem_nil, or_false] at hw
  rcases hw with rfl | rfl | rfl | rfl | rfl | rfl | rfl | rfl | rfl
  · exact jtabs_ok 1 _ (List.mem_of_getElem? (i := 133) rfl)
  · exact jtabs_ok 1 _ (List.mem_of_getElem? (i := 217) rfl)
  · exact jtabs_ok 2 _ (List.mem_of_getElem? (i := 171) rfl)
  · exact jtabs_ok 4 _ (List.mem_of_getElem? (i := 112) rfl)
  · exact jtabs_ok 4 _ (List.mem_of_getElem? (i := 148) rfl)
  · exact jtabs_ok 4 _ (List.mem_of_getElem? (i := 187) rfl)
  · exact jtabs_ok 4 _ (List.mem_of_getElem? (i := 219) rfl)
  · exact jtabs_ok 5 _ (List.mem_of_getElem? (i := 28) rfl)
  · exact jtabs_ok 5 _ (List.mem_of_getElem? (i := 89) rfl)
theorem jm_nest_ok : ∀ w ∈ jm_nest, ∃ a i x h, w = Cond.methodLinkNest a i x h := by
  intro w hw
  simp only [jm_nest, List.mem_cons, List.not_mem_nil, or_false] at hw
  rcases hw with rfl | rfl | rfl | rfl | rfl | rfl | rfl | rfl | rfl <;> exact ⟨_, _, _, _, rfl⟩
