/-! SYSTEM 2: what the kernel decides of its tables -/
theorem s2_har : ∀ y, y < 111 → (parseMethodDescriptor (s2_yn y).desc).map (fun d => d.parameters.length) = some (s2_ar y) := by decide +kernel
theorem s2_ck0 : ((List.range 12).map (fun k => k + 0)).all (fun y => ck_B s2_G 0 111 13 s2_cn s2_yn s2_bc s2_tf s2_AN s2_zs s2_sk s2_ar y (s2_bl y) (s2_ix y)) = true := by decide +kernel
theorem s2_ck12 : ((List.range 12).map (fun k => k + 12)).all (fun y => ck_B s2_G 0 111 13 s2_cn s2_yn s2_bc s2_tf s2_AN s2_zs s2_sk s2_ar y (s2_bl y) (s2_ix y)) = true := by decide +kernel
theorem s2_ck24 : ((List.range 12).map (fun k => k + 24)).all (fun y => ck_B s2_G 0 111 13 s2_cn s2_yn s2_bc s2_tf s2_AN s2_zs s2_sk s2_ar y (s2_bl y) (s2_ix y)) = true := by decide +kernel
theorem s2_ck36 : ((List.range 12).map (fun k => k + 36)).all (fun y => ck_B s2_G 0 111 13 s2_cn s2_yn s2_bc s2_tf s2_AN s2_zs s2_sk s2_ar y (s2_bl y) (s2_ix y)) = true := by decide +kernel
theorem s2_ck48 : ((List.range 12).map (fun k => k + 48)).all (fun y => ck_B s2_G 0 111 13 s2_cn s2_yn s2_bc s2_tf s2_AN s2_zs s2_sk s2_ar y (s2_bl y) (s2_ix y)) = true := by decide +kernel
theorem s2_ck60 : ((List.range 12).map (fun k => k + 60)).all (fun y => ck_B s2_G 0 111 13 s2_cn s2_yn s2_bc s2_tf s2_AN s2_zs s2_sk s2_ar y (s2_bl y) (s2_ix y)) = true := by decide +kernel
theorem s2_ck72 : ((List.range 12).map (fun k => k + 72)).all (fun y => ck_B s2_G 0 111 13 s2_cn s2_yn s2_bc s2_tf s2_AN s2_zs s2_sk s2_ar y (s2_bl y) (s2_ix y)) = true := by decide +kernel
theorem s2_ck84 : ((List.range 12).map (fun k => k + 84)).all (fun y => ck_B s2_G 0 111 13 s2_cn s2_yn s2_bc s2_tf s2_AN s2_zs s2_sk s2_ar y (s2_bl y) (s2_ix y)) = true := by decide +kernel
theorem s2_ck96 : ((List.range 12).map (fun k => k + 96)).all (fun y => ck_B s2_G 0 111 13 s2_cn s2_yn s2_bc s2_tf s2_AN s2_zs s2_sk s2_ar y (s2_bl y) (s2_ix y)) = true := by decide +kernel
theorem s2_ck108 : ((List.range 3).map (fun k => k + 108)).all (fun y => ck_B s2_G 0 111 13 s2_cn s2_yn s2_bc s2_tf s2_AN s2_zs s2_sk s2_ar y (s2_bl y) (s2_ix y)) = true := by decide +kernel
