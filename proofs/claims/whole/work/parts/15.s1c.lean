/-! SYSTEM 1: what the kernel decides of its tables -/
theorem s1_har : ∀ y, y < 153 → (parseMethodDescriptor (s1_yn y).desc).map (fun d => d.parameters.length) = some (s1_ar y) := by decide +kernel
theorem s1_ck0 : ((List.range 12).map (fun k => k + 0)).all (fun y => ck_B s1_G 21 153 13 s1_cn s1_yn s1_bc s1_tf s1_AN s1_zs s1_sk s1_ar y (s1_bl y) (s1_ix y)) = true := by decide +kernel
theorem s1_ck12 : ((List.range 12).map (fun k => k + 12)).all (fun y => ck_B s1_G 21 153 13 s1_cn s1_yn s1_bc s1_tf s1_AN s1_zs s1_sk s1_ar y (s1_bl y) (s1_ix y)) = true := by decide +kernel
theorem s1_ck24 : ((List.range 12).map (fun k => k + 24)).all (fun y => ck_B s1_G 21 153 13 s1_cn s1_yn s1_bc s1_tf s1_AN s1_zs s1_sk s1_ar y (s1_bl y) (s1_ix y)) = true := by decide +kernel
theorem s1_ck36 : ((List.range 12).map (fun k => k + 36)).all (fun y => ck_B s1_G 21 153 13 s1_cn s1_yn s1_bc s1_tf s1_AN s1_zs s1_sk s1_ar y (s1_bl y) (s1_ix y)) = true := by decide +kernel
theorem s1_ck48 : ((List.range 12).map (fun k => k + 48)).all (fun y => ck_B s1_G 21 153 13 s1_cn s1_yn s1_bc s1_tf s1_AN s1_zs s1_sk s1_ar y (s1_bl y) (s1_ix y)) = true := by decide +kernel
theorem s1_ck60 : ((List.range 12).map (fun k => k + 60)).all (fun y => ck_B s1_G 21 153 13 s1_cn s1_yn s1_bc s1_tf s1_AN s1_zs s1_sk s1_ar y (s1_bl y) (s1_ix y)) = true := by decide +kernel
theorem s1_ck72 : ((List.range 12).map (fun k => k + 72)).all (fun y => ck_B s1_G 21 153 13 s1_cn s1_yn s1_bc s1_tf s1_AN s1_zs s1_sk s1_ar y (s1_bl y) (s1_ix y)) = true := by decide +kernel
theorem s1_ck84 : ((List.range 12).map (fun k => k + 84)).all (fun y => ck_B s1_G 21 153 13 s1_cn s1_yn s1_bc s1_tf s1_AN s1_zs s1_sk s1_ar y (s1_bl y) (s1_ix y)) = true := by decide +kernel
theorem s1_ck96 : ((List.range 12).map (fun k => k + 96)).all (fun y => ck_B s1_G 21 153 13 s1_cn s1_yn s1_bc s1_tf s1_AN s1_zs s1_sk s1_ar y (s1_bl y) (s1_ix y)) = true := by decide +kernel
theorem s1_ck108 : ((List.range 12).map (fun k => k + 108)).all (fun y => ck_B s1_G 21 153 13 s1_cn s1_yn s1_bc s1_tf s1_AN s1_zs s1_sk s1_ar y (s1_bl y) (s1_ix y)) = true := by decide +kernel
theorem s1_ck120 : ((List.range 12).map (fun k => k + 120)).all (fun y => ck_B s1_G 21 153 13 s1_cn s1_yn s1_bc s1_tf s1_AN s1_zs s1_sk s1_ar y (s1_bl y) (s1_ix y)) = true := by decide +kernel
theorem s1_ck132 : ((List.range 12).map (fun k => k + 132)).all (fun y => ck_B s1_G 21 153 13 s1_cn s1_yn s1_bc s1_tf s1_AN s1_zs s1_sk s1_ar y (s1_bl y) (s1_ix y)) = true := by decide +kernel
theorem s1_ck144 : ((List.range 9).map (fun k => k + 144)).all (fun y => ck_B s1_G 21 153 13 s1_cn s1_yn s1_bc s1_tf s1_AN s1_zs s1_sk s1_ar y (s1_bl y) (s1_ix y)) = true := by decide +kernel
