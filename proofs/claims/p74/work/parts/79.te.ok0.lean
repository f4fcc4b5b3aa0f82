set_option maxRecDepth 100000 in
theorem zzh_0 : q_okH q_D q_m0 = true := by decide +kernel
set_option maxRecDepth 100000 in
theorem zzc_0 : z_okC q_D q_m0 = true := by decide +kernel
set_option maxRecDepth 100000 in
theorem zzh_1 : q_okH q_D q_m1 = true := by decide +kernel
set_option maxRecDepth 100000 in
theorem zzc_1 : z_okC q_D q_m1 = true := by decide +kernel
set_option maxRecDepth 100000 in
theorem zzh_2 : q_okH q_D q_m2 = true := by decide +kernel
set_option maxRecDepth 100000 in
theorem zzc_2 : z_okC q_D q_m2 = true := by decide +kernel
set_option maxRecDepth 100000 in
theorem zzh_3 : q_okH q_D q_m3 = true := by decide +kernel
set_option maxRecDepth 100000 in
theorem zzc_3 : z_okC q_D q_m3 = true := by decide +kernel
set_option maxRecDepth 100000 in
theorem zzh_4 : q_okH q_D q_m4 = true := by decide +kernel
set_option maxRecDepth 100000 in
theorem zzc_4 : z_okC q_D q_m4 = true := by decide +kernel
set_option maxRecDepth 100000 in
theorem zzh_5 : q_okH q_D q_m5 = true := by decide +kernel
set_option maxRecDepth 100000 in
theorem zzc_5 : z_okC q_D q_m5 = true := by decide +kernel
set_option maxRecDepth 100000 in
theorem zzh_6 : q_okH q_D q_m6 = true := by decide +kernel
set_option maxRecDepth 100000 in
theorem zzc_6 : z_okC q_D q_m6 = true := by decide +kernel
set_option maxRecDepth 100000 in
theorem zzh_7 : q_okH q_D q_m7 = true := by decide +kernel
set_option maxRecDepth 100000 in
theorem zzc_7 : z_okC q_D q_m7 = true := by decide +kernel
set_option maxRecDepth 100000 in
theorem zzh_8 : q_okH q_D q_m8 = true := by decide +kernel
set_option maxRecDepth 100000 in
theorem zzc_8 : z_okC q_D q_m8 = true := by decide +kernel
set_option maxRecDepth 100000 in
theorem zzh_9 : q_okH q_D q_m9 = true := by decide +kernel
set_option maxRecDepth 100000 in
theorem zzc_9 : z_okC q_D q_m9 = true := by decide +kernel
set_option maxRecDepth 100000 in
theorem zzh_10 : q_okH q_D q_m10 = true := by decide +kernel
set_option maxRecDepth 100000 in
theorem zzc_10 : z_okC q_D q_m10 = true := by decide +kernel
set_option maxRecDepth 100000 in
theorem zzh_11 : q_okH q_D q_m11 = true := by decide +kernel
set_option maxRecDepth 100000 in
theorem zzc_11 : z_okC q_D q_m11 = true := by decide +kernel
set_option maxRecDepth 100000 in
theorem zzh_12 : q_okH q_D q_m12 = true := by decide +kernel
set_option maxRecDepth 100000 in
theorem zzc_12 : z_okC q_D q_m12 = true := by decide +kernel
set_option maxRecDepth 100000 in
theorem zzh_13 : q_okH q_D q_m13 = true := by decide +kernel
set_option maxRecDepth 100000 in
theorem zzc_13 : z_okC q_D q_m13 = true := by decide +kernel
set_option maxRecDepth 100000 in
theorem zzh_14 : q_okH q_D q_m14 = true := by decide +kernel
set_option maxRecDepth 100000 in
theorem zzc_14 : z_okC q_D q_m14 = true := by decide +kernel
set_option maxRecDepth 100000 in
theorem zzh_15 : q_okH q_D q_m15 = true := by decide +kernel
set_option maxRecDepth 100000 in
theorem zzc_15 : z_okC q_D q_m15 = true := by decide +kernel
set_option maxRecDepth 100000 in
theorem zzh_16 : q_okH q_D q_m16 = true := by decide +kernel
set_option maxRecDepth 100000 in
theorem zzc_16 : z_okC q_D q_m16 = true := by decide +kernel
set_option maxRecDepth 100000 in
theorem zzh_17 : q_okH q_D q_m17 = true := by decide +kernel
set_option maxRecDepth 100000 in
theorem zzc_17 : z_okC q_D q_m17 = true := by decide +kernel
set_option maxRecDepth 100000 in
theorem zzh_18 : q_okH q_D q_m18 = true := by decide +kernel
set_option maxRecDepth 100000 in
theorem zzc_18 : z_okC q_D q_m18 = true := by decide +kernel
set_option maxRecDepth 100000 in
theorem zzh_19 : q_okH q_D q_m19 = true := by decide +kernel
set_option maxRecDepth 100000 in
theorem zzc_19 : z_okC q_D q_m19 = true := by decide +kernel
set_option maxRecDepth 100000 in
theorem zzh_20 : q_okH q_D q_m20 = true := by decide +kernel
set_option maxRecDepth 100000 in
theorem zzc_20 : z_okC q_D q_m20 = true := by decide +kernel
set_option maxRecDepth 100000 in
theorem zzh_21 : q_okH q_D q_m21 = true := by decide +kernel
set_option maxRecDepth 100000 in
theorem zzc_21 : z_okC q_D q_m21 = true := by decide +kernel
set_option maxRecDepth 100000 in
theorem zzh_22 : q_okH q_D q_m22 = true := by decide +kernel
set_option maxRecDepth 100000 in
theorem zzc_22 : z_okC q_D q_m22 = true := by decide +kernel
set_option maxRecDepth 100000 in
theorem zzh_23 : q_okH q_D q_m23 = true := by decide +kernel
set_option maxRecDepth 100000 in
theorem zzc_23 : z_okC q_D q_m23 = true := by decide +kernel
set_option maxRecDepth 100000 in
theorem zzh_24 : q_okH q_D q_m24 = true := by decide +kernel
set_option maxRecDepth 100000 in
theorem zzc_24 : z_okC q_D q_m24 = true := by decide +kernel
set_option maxRecDepth 100000 in
theorem zzh_25 : q_okH q_D q_m25 = true := by decide +kernel
set_option maxRecDepth 100000 in
theorem zzc_25 : z_okC q_D q_m25 = true := by decide +kernel
set_option maxRecDepth 100000 in
theorem zzh_26 : q_okH q_D q_m26 = true := by decide +kernel
set_option maxRecDepth 100000 in
theorem zzc_26 : z_okC q_D q_m26 = true := by decide +kernel
set_option maxRecDepth 100000 in
theorem zzh_27 : q_okH q_D q_m27 = true := by decide +kernel
set_option maxRecDepth 100000 in
theorem zzc_27 : z_okC q_D q_m27 = true := by decide +kernel
set_option maxRecDepth 100000 in
theorem zzh_28 : q_okH q_D q_m28 = true := by decide +kernel
set_option maxRecDepth 100000 in
theorem zzc_28 : z_okC q_D q_m28 = true := by decide +kernel
set_option maxRecDepth 100000 in
theorem zzh_29 : q_okH q_D q_m29 = true := by decide +kernel
set_option maxRecDepth 100000 in
theorem zzc_29 : z_okC q_D q_m29 = true := by decide +kernel
set_option maxRecDepth 100000 in
theorem zzh_30 : q_okH q_D q_m30 = true := by decide +kernel
set_option maxRecDepth 100000 in
theorem zzc_30 : z_okC q_D q_m30 = true := by decide +kernel
set_option maxRecDepth 100000 in
theorem zzh_31 : q_okH q_D q_m31 = true := by decide +kernel
set_option maxRecDepth 100000 in
theorem zzc_31 : z_okC q_D q_m31 = true := by decide +kernel
set_option maxRecDepth 100000 in
theorem zzh_32 : q_okH q_D q_m32 = true := by decide +kernel
set_option maxRecDepth 100000 in
theorem zzc_32 : z_okC q_D q_m32 = true := by decide +kernel
set_option maxRecDepth 100000 in
theorem zzh_33 : q_okH q_D q_m33 = true := by decide +kernel
set_option maxRecDepth 100000 in
theorem zzc_33 : z_okC q_D q_m33 = true := by decide +kernel
set_option maxRecDepth 100000 in
theorem zzh_34 : q_okH q_D q_m34 = true := by decide +kernel
set_option maxRecDepth 100000 in
theorem zzc_34 : z_okC q_D q_m34 = true := by decide +kernel
set_option maxRecDepth 100000 in
theorem zzh_35 : q_okH q_D q_m35 = true := by decide +kernel
set_option maxRecDepth 100000 in
theorem zzc_35 : z_okC q_D q_m35 = true := by decide +kernel
set_option maxRecDepth 100000 in
theorem zzh_36 : q_okH q_D q_m36 = true := by decide +kernel
set_option maxRecDepth 100000 in
theorem zzc_36 : z_okC q_D q_m36 = true := by decide +kernel
set_option maxRecDepth 100000 in
theorem zzh_37 : q_okH q_D q_m37 = true := by decide +kernel
set_option maxRecDepth 100000 in
theorem zzc_37 : z_okC q_D q_m37 = true := by decide +kernel
set_option maxRecDepth 100000 in
theorem zzh_38 : q_okH q_D q_m38 = true := by decide +kernel
set_option maxRecDepth 100000 in
theorem zzc_38 : z_okC q_D q_m38 = true := by decide +kernel
set_option maxRecDepth 100000 in
theorem zzh_39 : q_okH q_D q_m39 = true := by decide +kernel
set_option maxRecDepth 100000 in
theorem zzc_39 : z_okC q_D q_m39 = true := by decide +kernel
set_option maxRecDepth 100000 in
theorem zzh_80 : q_okH q_D q_m80 = true := by decide +kernel
set_option maxRecDepth 100000 in
theorem zzc_80 : z_okC q_D q_m80 = true := by decide +kernel
set_option maxRecDepth 100000 in
theorem zzh_81 : q_okH q_D q_m81 = true := by decide +kernel
set_option maxRecDepth 100000 in
theorem zzc_81 : z_okC q_D q_m81 = true := by decide +kernel
set_option maxRecDepth 100000 in
theorem zzh_82 : q_okH q_D q_m82 = true := by decide +kernel
set_option maxRecDepth 100000 in
theorem zzc_82 : z_okC q_D q_m82 = true := by decide +kernel
set_option maxRecDepth 100000 in
theorem zzh_83 : q_okH q_D q_m83 = true := by decide +kernel
set_option maxRecDepth 100000 in
theorem zzc_83 : z_okC q_D q_m83 = true := by decide +kernel
set_option maxRecDepth 100000 in
theorem zzh_84 : q_okH q_D q_m84 = true := by decide +kernel
set_option maxRecDepth 100000 in
theorem zzc_84 : z_okC q_D q_m84 = true := by decide +kernel
set_option maxRecDepth 100000 in
theorem zzh_85 : q_okH q_D q_m85 = true := by decide +kernel
set_option maxRecDepth 100000 in
theorem zzc_85 : z_okC q_D q_m85 = true := by decide +kernel
set_option maxRecDepth 100000 in
theorem zzh_86 : q_okH q_D q_m86 = true := by decide +kernel
set_option maxRecDepth 100000 in
theorem zzc_86 : z_okC q_D q_m86 = true := by decide +kernel
set_option maxRecDepth 100000 in
theorem zzh_87 : q_okH q_D q_m87 = true := by decide +kernel
set_option maxRecDepth 100000 in
theorem zzc_87 : z_okC q_D q_m87 = true := by decide +kernel
set_option maxRecDepth 100000 in
theorem zzh_88 : q_okH q_D q_m88 = true := by decide +kernel
set_option maxRecDepth 100000 in
theorem zzc_88 : z_okC q_D q_m88 = true := by decide +kernel
set_option maxRecDepth 100000 in
theorem zzh_89 : q_okH q_D q_m89 = true := by decide +kernel
set_option maxRecDepth 100000 in
theorem zzc_89 : z_okC q_D q_m89 = true := by decide +kernel
set_option maxRecDepth 100000 in
theorem zzh_90 : q_okH q_D q_m90 = true := by decide +kernel
set_option maxRecDepth 100000 in
theorem zzc_90 : z_okC q_D q_m90 = true := by decide +kernel
set_option maxRecDepth 100000 in
theorem zzh_91 : q_okH q_D q_m91 = true := by decide +kernel
set_option maxRecDepth 100000 in
theorem zzc_91 : z_okC q_D q_m91 = true := by decide +kernel
set_option maxRecDepth 100000 in
theorem zzh_92 : q_okH q_D q_m92 = true := by decide +kernel
set_option maxRecDepth 100000 in
theorem zzc_92 : z_okC q_D q_m92 = true := by decide +kernel
set_option maxRecDepth 100000 in
theorem zzh_93 : q_okH q_D q_m93 = true := by decide +kernel
set_option maxRecDepth 100000 in
theorem zzc_93 : z_okC q_D q_m93 = true := by decide +kernel
set_option maxRecDepth 100000 in
theorem zzh_94 : q_okH q_D q_m94 = true := by decide +kernel
set_option maxRecDepth 100000 in
theorem zzc_94 : z_okC q_D q_m94 = true := by decide +kernel
set_option maxRecDepth 100000 in
theorem zzh_95 : q_okH q_D q_m95 = true := by decide +kernel
set_option maxRecDepth 100000 in
theorem zzc_95 : z_okC q_D q_m95 = true := by decide +kernel
set_option maxRecDepth 100000 in
theorem zzh_96 : q_okH q_D q_m96 = true := by decide +kernel
set_option maxRecDepth 100000 in
theorem zzc_96 : z_okC q_D q_m96 = true := by decide +kernel
set_option maxRecDepth 100000 in
theorem zzh_97 : q_okH q_D q_m97 = true := by decide +kernel
set_option maxRecDepth 100000 in
theorem zzc_97 : z_okC q_D q_m97 = true := by decide +kernel
set_option maxRecDepth 100000 in
theorem zzh_98 : q_okH q_D q_m98 = true := by decide +kernel
set_option maxRecDepth 100000 in
theorem zzc_98 : z_okC q_D q_m98 = true := by decide +kernel
set_option maxRecDepth 100000 in
theorem zzh_99 : q_okH q_D q_m99 = true := by decide +kernel
set_option maxRecDepth 100000 in
theorem zzc_99 : z_okC q_D q_m99 = true := by decide +kernel
set_option maxRecDepth 100000 in
theorem zzh_100 : q_okH q_D q_m100 = true := by decide +kernel
set_option maxRecDepth 100000 in
theorem zzc_100 : z_okC q_D q_m100 = true := by decide +kernel
set_option maxRecDepth 100000 in
theorem zzh_101 : q_okH q_D q_m101 = true := by decide +kernel
set_option maxRecDepth 100000 in
theorem zzc_101 : z_okC q_D q_m101 = true := by decide +kernel
set_option maxRecDepth 100000 in
theorem zzh_102 : q_okH q_D q_m102 = true := by decide +kernel
set_option maxRecDepth 100000 in
theorem zzc_102 : z_okC q_D q_m102 = true := by decide +kernel
set_option maxRecDepth 100000 in
theorem zzh_103 : q_okH q_D q_m103 = true := by decide +kernel
set_option maxRecDepth 100000 in
theorem zzc_103 : z_okC q_D q_m103 = true := by decide +kernel
set_option maxRecDepth 100000 in
theorem zzh_104 : q_okH q_D q_m104 = true := by decide +kernel
set_option maxRecDepth 100000 in
theorem zzc_104 : z_okC q_D q_m104 = true := by decide +kernel
set_option maxRecDepth 100000 in
theorem zzh_105 : q_okH q_D q_m105 = true := by decide +kernel
set_option maxRecDepth 100000 in
theorem zzc_105 : z_okC q_D q_m105 = true := by decide +kernel
set_option maxRecDepth 100000 in
theorem zzh_106 : q_okH q_D q_m106 = true := by decide +kernel
set_option maxRecDepth 100000 in
theorem zzc_106 : z_okC q_D q_m106 = true := by decide +kernel
set_option maxRecDepth 100000 in
theorem zzh_107 : q_okH q_D q_m107 = true := by decide +kernel
set_option maxRecDepth 100000 in
theorem zzc_107 : z_okC q_D q_m107 = true := by decide +kernel
set_option maxRecDepth 100000 in
theorem zzh_108 : q_okH q_D q_m108 = true := by decide +kernel
set_option maxRecDepth 100000 in
theorem zzc_108 : z_okC q_D q_m108 = true := by decide +kernel
set_option maxRecDepth 100000 in
theorem zzh_109 : q_okH q_D q_m109 = true := by decide +kernel
set_option maxRecDepth 100000 in
theorem zzc_109 : z_okC q_D q_m109 = true := by decide +kernel
set_option maxRecDepth 100000 in
theorem zzh_110 : q_okH q_D q_m110 = true := by decide +kernel
set_option maxRecDepth 100000 in
theorem zzc_110 : z_okC q_D q_m110 = true := by decide +kernel
set_option maxRecDepth 100000 in
theorem zzh_111 : q_okH q_D q_m111 = true := by decide +kernel
set_option maxRecDepth 100000 in
theorem zzc_111 : z_okC q_D q_m111 = true := by decide +kernel
set_option maxRecDepth 100000 in
theorem zzh_112 : q_okH q_D q_m112 = true := by decide +kernel
set_option maxRecDepth 100000 in
theorem zzc_112 : z_okC q_D q_m112 = true := by decide +kernel
set_option maxRecDepth 100000 in
theorem zzh_113 : q_okH q_D q_m113 = true := by decide +kernel
set_option maxRecDepth 100000 in
theorem zzc_113 : z_okC q_D q_m113 = true := by decide +kernel
set_option maxRecDepth 100000 in
theorem zzh_114 : q_okH q_D q_m114 = true := by decide +kernel
set_option maxRecDepth 100000 in
theorem zzc_114 : z_okC q_D q_m114 = true := by decide +kernel
set_option maxRecDepth 100000 in
theorem zzh_115 : q_okH q_D q_m115 = true := by decide +kernel
set_option maxRecDepth 100000 in
theorem zzc_115 : z_okC q_D q_m115 = true := by decide +kernel
set_option maxRecDepth 100000 in
theorem zzh_116 : q_okH q_D q_m116 = true := by decide +kernel
set_option maxRecDepth 100000 in
theorem zzc_116 : z_okC q_D q_m116 = true := by decide +kernel
set_option maxRecDepth 100000 in
theorem zzh_117 : q_okH q_D q_m117 = true := by decide +kernel
set_option maxRecDepth 100000 in
theorem zzc_117 : z_okC q_D q_m117 = true := by decide +kernel
set_option maxRecDepth 100000 in
theorem zzh_118 : q_okH q_D q_m118 = true := by decide +kernel
set_option maxRecDepth 100000 in
theorem zzc_118 : z_okC q_D q_m118 = true := by decide +kernel
set_option maxRecDepth 100000 in
theorem zzh_119 : q_okH q_D q_m119 = true := by decide +kernel
set_option maxRecDepth 100000 in
theorem zzc_119 : z_okC q_D q_m119 = true := by decide +kernel
