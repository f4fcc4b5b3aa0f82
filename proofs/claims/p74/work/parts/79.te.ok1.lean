set_option maxRecDepth 100000 in
theorem zzh_40 : q_okH q_D q_m40 = true := by decide +kernel
set_option maxRecDepth 100000 in
theorem zzc_40 : z_okC q_D q_m40 = true := by decide +kernel
set_option maxRecDepth 100000 in
theorem zzh_41 : q_okH q_D q_m41 = true := by decide +kernel
set_option maxRecDepth 100000 in
theorem zzc_41 : z_okC q_D q_m41 = true := by decide +kernel
set_option maxRecDepth 100000 in
theorem zzh_42 : q_okH q_D q_m42 = true := by decide +kernel
set_option maxRecDepth 100000 in
theorem zzc_42 : z_okC q_D q_m42 = true := by decide +kernel
set_option maxRecDepth 100000 in
theorem zzh_43 : q_okH q_D q_m43 = true := by decide +kernel
set_option maxRecDepth 100000 in
theorem zzc_43 : z_okC q_D q_m43 = true := by decide +kernel
set_option maxRecDepth 100000 in
theorem zzh_44 : q_okH q_D q_m44 = true := by decide +kernel
set_option maxRecDepth 100000 in
theorem zzc_44 : z_okC q_D q_m44 = true := by decide +kernel
set_option maxRecDepth 100000 in
theorem zzh_45 : q_okH q_D q_m45 = true := by decide +kernel
set_option maxRecDepth 100000 in
theorem zzc_45 : z_okC q_D q_m45 = true := by decide +kernel
set_option maxRecDepth 100000 in
theorem zzh_46 : q_okH q_D q_m46 = true := by decide +kernel
set_option maxRecDepth 100000 in
theorem zzc_46 : z_okC q_D q_m46 = true := by decide +kernel
set_option maxRecDepth 100000 in
theorem zzh_47 : q_okH q_D q_m47 = true := by decide +kernel
set_option maxRecDepth 100000 in
theorem zzc_47 : z_okC q_D q_m47 = true := by decide +kernel
set_option maxRecDepth 100000 in
theorem zzh_48 : q_okH q_D q_m48 = true := by decide +kernel
set_option maxRecDepth 100000 in
theorem zzc_48 : z_okC q_D q_m48 = true := by decide +kernel
set_option maxRecDepth 100000 in
theorem zzh_49 : q_okH q_D q_m49 = true := by decide +kernel
set_option maxRecDepth 100000 in
theorem zzc_49 : z_okC q_D q_m49 = true := by decide +kernel
set_option maxRecDepth 100000 in
theorem zzh_50 : q_okH q_D q_m50 = true := by decide +kernel
set_option maxRecDepth 100000 in
theorem zzc_50 : z_okC q_D q_m50 = true := by decide +kernel
set_option maxRecDepth 100000 in
theorem zzh_51 : q_okH q_D q_m51 = true := by decide +kernel
set_option maxRecDepth 100000 in
theorem zzc_51 : z_okC q_D q_m51 = true := by decide +kernel
set_option maxRecDepth 100000 in
theorem zzh_52 : q_okH q_D q_m52 = true := by decide +kernel
set_option maxRecDepth 100000 in
theorem zzc_52 : z_okC q_D q_m52 = true := by decide +kernel
set_option maxRecDepth 100000 in
theorem zzh_53 : q_okH q_D q_m53 = true := by decide +kernel
set_option maxRecDepth 100000 in
theorem zzc_53 : z_okC q_D q_m53 = true := by decide +kernel
set_option maxRecDepth 100000 in
theorem zzh_54 : q_okH q_D q_m54 = true := by decide +kernel
set_option maxRecDepth 100000 in
theorem zzc_54 : z_okC q_D q_m54 = true := by decide +kernel
set_option maxRecDepth 100000 in
theorem zzh_55 : q_okH q_D q_m55 = true := by decide +kernel
set_option maxRecDepth 100000 in
theorem zzc_55 : z_okC q_D q_m55 = true := by decide +kernel
set_option maxRecDepth 100000 in
theorem zzh_56 : q_okH q_D q_m56 = true := by decide +kernel
set_option maxRecDepth 100000 in
theorem zzc_56 : z_okC q_D q_m56 = true := by decide +kernel
set_option maxRecDepth 100000 in
theorem zzh_57 : q_okH q_D q_m57 = true := by decide +kernel
set_option maxRecDepth 100000 in
theorem zzc_57 : z_okC q_D q_m57 = true := by decide +kernel
set_option maxRecDepth 100000 in
theorem zzh_58 : q_okH q_D q_m58 = true := by decide +kernel
set_option maxRecDepth 100000 in
theorem zzc_58 : z_okC q_D q_m58 = true := by decide +kernel
set_option maxRecDepth 100000 in
theorem zzh_59 : q_okH q_D q_m59 = true := by decide +kernel
set_option maxRecDepth 100000 in
theorem zzc_59 : z_okC q_D q_m59 = true := by decide +kernel
set_option maxRecDepth 100000 in
theorem zzh_60 : q_okH q_D q_m60 = true := by decide +kernel
set_option maxRecDepth 100000 in
theorem zzc_60 : z_okC q_D q_m60 = true := by decide +kernel
set_option maxRecDepth 100000 in
theorem zzh_61 : q_okH q_D q_m61 = true := by decide +kernel
set_option maxRecDepth 100000 in
theorem zzc_61 : z_okC q_D q_m61 = true := by decide +kernel
set_option maxRecDepth 100000 in
theorem zzh_62 : q_okH q_D q_m62 = true := by decide +kernel
set_option maxRecDepth 100000 in
theorem zzc_62 : z_okC q_D q_m62 = true := by decide +kernel
set_option maxRecDepth 100000 in
theorem zzh_63 : q_okH q_D q_m63 = true := by decide +kernel
set_option maxRecDepth 100000 in
theorem zzc_63 : z_okC q_D q_m63 = true := by decide +kernel
set_option maxRecDepth 100000 in
theorem zzh_64 : q_okH q_D q_m64 = true := by decide +kernel
set_option maxRecDepth 100000 in
theorem zzc_64 : z_okC q_D q_m64 = true := by decide +kernel
set_option maxRecDepth 100000 in
theorem zzh_65 : q_okH q_D q_m65 = true := by decide +kernel
set_option maxRecDepth 100000 in
theorem zzc_65 : z_okC q_D q_m65 = true := by decide +kernel
set_option maxRecDepth 100000 in
theorem zzh_66 : q_okH q_D q_m66 = true := by decide +kernel
set_option maxRecDepth 100000 in
theorem zzc_66 : z_okC q_D q_m66 = true := by decide +kernel
set_option maxRecDepth 100000 in
theorem zzh_67 : q_okH q_D q_m67 = true := by decide +kernel
set_option maxRecDepth 100000 in
theorem zzc_67 : z_okC q_D q_m67 = true := by decide +kernel
set_option maxRecDepth 100000 in
theorem zzh_68 : q_okH q_D q_m68 = true := by decide +kernel
set_option maxRecDepth 100000 in
theorem zzc_68 : z_okC q_D q_m68 = true := by decide +kernel
set_option maxRecDepth 100000 in
theorem zzh_69 : q_okH q_D q_m69 = true := by decide +kernel
set_option maxRecDepth 100000 in
theorem zzc_69 : z_okC q_D q_m69 = true := by decide +kernel
set_option maxRecDepth 100000 in
theorem zzh_70 : q_okH q_D q_m70 = true := by decide +kernel
set_option maxRecDepth 100000 in
theorem zzc_70 : z_okC q_D q_m70 = true := by decide +kernel
set_option maxRecDepth 100000 in
theorem zzh_71 : q_okH q_D q_m71 = true := by decide +kernel
set_option maxRecDepth 100000 in
theorem zzc_71 : z_okC q_D q_m71 = true := by decide +kernel
set_option maxRecDepth 100000 in
theorem zzh_72 : q_okH q_D q_m72 = true := by decide +kernel
set_option maxRecDepth 100000 in
theorem zzc_72 : z_okC q_D q_m72 = true := by decide +kernel
set_option maxRecDepth 100000 in
theorem zzh_73 : q_okH q_D q_m73 = true := by decide +kernel
set_option maxRecDepth 100000 in
theorem zzc_73 : z_okC q_D q_m73 = true := by decide +kernel
set_option maxRecDepth 100000 in
theorem zzh_74 : q_okH q_D q_m74 = true := by decide +kernel
set_option maxRecDepth 100000 in
theorem zzc_74 : z_okC q_D q_m74 = true := by decide +kernel
set_option maxRecDepth 100000 in
theorem zzh_75 : q_okH q_D q_m75 = true := by decide +kernel
set_option maxRecDepth 100000 in
theorem zzc_75 : z_okC q_D q_m75 = true := by decide +kernel
set_option maxRecDepth 100000 in
theorem zzh_76 : q_okH q_D q_m76 = true := by decide +kernel
set_option maxRecDepth 100000 in
theorem zzc_76 : z_okC q_D q_m76 = true := by decide +kernel
set_option maxRecDepth 100000 in
theorem zzh_77 : q_okH q_D q_m77 = true := by decide +kernel
set_option maxRecDepth 100000 in
theorem zzc_77 : z_okC q_D q_m77 = true := by decide +kernel
set_option maxRecDepth 100000 in
theorem zzh_78 : q_okH q_D q_m78 = true := by decide +kernel
set_option maxRecDepth 100000 in
theorem zzc_78 : z_okC q_D q_m78 = true := by decide +kernel
set_option maxRecDepth 100000 in
theorem zzh_79 : q_okH q_D q_m79 = true := by decide +kernel
set_option maxRecDepth 100000 in
theorem zzc_79 : z_okC q_D q_m79 = true := by decide +kernel
set_option maxRecDepth 100000 in
theorem zzh_120 : q_okH q_D q_m120 = true := by decide +kernel
set_option maxRecDepth 100000 in
theorem zzc_120 : z_okC q_D q_m120 = true := by decide +kernel
set_option maxRecDepth 100000 in
theorem zzh_121 : q_okH q_D q_m121 = true := by decide +kernel
set_option maxRecDepth 100000 in
theorem zzc_121 : z_okC q_D q_m121 = true := by decide +kernel
set_option maxRecDepth 100000 in
theorem zzh_122 : q_okH q_D q_m122 = true := by decide +kernel
set_option maxRecDepth 100000 in
theorem zzc_122 : z_okC q_D q_m122 = true := by decide +kernel
set_option maxRecDepth 100000 in
theorem zzh_123 : q_okH q_D q_m123 = true := by decide +kernel
set_option maxRecDepth 100000 in
theorem zzc_123 : z_okC q_D q_m123 = true := by decide +kernel
set_option maxRecDepth 100000 in
theorem zzh_124 : q_okH q_D q_m124 = true := by decide +kernel
set_option maxRecDepth 100000 in
theorem zzc_124 : z_okC q_D q_m124 = true := by decide +kernel
set_option maxRecDepth 100000 in
theorem zzh_125 : q_okH q_D q_m125 = true := by decide +kernel
set_option maxRecDepth 100000 in
theorem zzc_125 : z_okC q_D q_m125 = true := by decide +kernel
set_option maxRecDepth 100000 in
theorem zzh_126 : q_okH q_D q_m126 = true := by decide +kernel
set_option maxRecDepth 100000 in
theorem zzc_126 : z_okC q_D q_m126 = true := by decide +kernel
set_option maxRecDepth 100000 in
theorem zzh_127 : q_okH q_D q_m127 = true := by decide +kernel
set_option maxRecDepth 100000 in
theorem zzc_127 : z_okC q_D q_m127 = true := by decide +kernel
set_option maxRecDepth 100000 in
theorem zzh_128 : q_okH q_D q_m128 = true := by decide +kernel
set_option maxRecDepth 100000 in
theorem zzc_128 : z_okC q_D q_m128 = true := by decide +kernel
set_option maxRecDepth 100000 in
theorem zzh_129 : q_okH q_D q_m129 = true := by decide +kernel
set_option maxRecDepth 100000 in
theorem zzc_129 : z_okC q_D q_m129 = true := by decide +kernel
set_option maxRecDepth 100000 in
theorem zzh_130 : q_okH q_D q_m130 = true := by decide +kernel
set_option maxRecDepth 100000 in
theorem zzc_130 : z_okC q_D q_m130 = true := by decide +kernel
set_option maxRecDepth 100000 in
theorem zzh_131 : q_okH q_D q_m131 = true := by decide +kernel
set_option maxRecDepth 100000 in
theorem zzc_131 : z_okC q_D q_m131 = true := by decide +kernel
set_option maxRecDepth 100000 in
theorem zzh_132 : q_okH q_D q_m132 = true := by decide +kernel
set_option maxRecDepth 100000 in
theorem zzc_132 : z_okC q_D q_m132 = true := by decide +kernel
set_option maxRecDepth 100000 in
theorem zzh_133 : q_okH q_D q_m133 = true := by decide +kernel
set_option maxRecDepth 100000 in
theorem zzc_133 : z_okC q_D q_m133 = true := by decide +kernel
set_option maxRecDepth 100000 in
theorem zzh_134 : q_okH q_D q_m134 = true := by decide +kernel
set_option maxRecDepth 100000 in
theorem zzc_134 : z_okC q_D q_m134 = true := by decide +kernel
set_option maxRecDepth 100000 in
theorem zzh_135 : q_okH q_D q_m135 = true := by decide +kernel
set_option maxRecDepth 100000 in
theorem zzc_135 : z_okC q_D q_m135 = true := by decide +kernel
set_option maxRecDepth 100000 in
theorem zzh_136 : q_okH q_D q_m136 = true := by decide +kernel
set_option maxRecDepth 100000 in
theorem zzc_136 : z_okC q_D q_m136 = true := by decide +kernel
set_option maxRecDepth 100000 in
theorem zzh_137 : q_okH q_D q_m137 = true := by decide +kernel
set_option maxRecDepth 100000 in
theorem zzc_137 : z_okC q_D q_m137 = true := by decide +kernel
set_option maxRecDepth 100000 in
theorem zzh_138 : q_okH q_D q_m138 = true := by decide +kernel
set_option maxRecDepth 100000 in
theorem zzc_138 : z_okC q_D q_m138 = true := by decide +kernel
set_option maxRecDepth 100000 in
theorem zzh_139 : q_okH q_D q_m139 = true := by decide +kernel
set_option maxRecDepth 100000 in
theorem zzc_139 : z_okC q_D q_m139 = true := by decide +kernel
set_option maxRecDepth 100000 in
theorem zzh_140 : q_okH q_D q_m140 = true := by decide +kernel
set_option maxRecDepth 100000 in
theorem zzc_140 : z_okC q_D q_m140 = true := by decide +kernel
set_option maxRecDepth 100000 in
theorem zzh_141 : q_okH q_D q_m141 = true := by decide +kernel
set_option maxRecDepth 100000 in
theorem zzc_141 : z_okC q_D q_m141 = true := by decide +kernel
set_option maxRecDepth 100000 in
theorem zzh_142 : q_okH q_D q_m142 = true := by decide +kernel
set_option maxRecDepth 100000 in
theorem zzc_142 : z_okC q_D q_m142 = true := by decide +kernel
set_option maxRecDepth 100000 in
theorem zzh_143 : q_okH q_D q_m143 = true := by decide +kernel
set_option maxRecDepth 100000 in
theorem zzc_143 : z_okC q_D q_m143 = true := by decide +kernel
set_option maxRecDepth 100000 in
theorem zzh_144 : q_okH q_D q_m144 = true := by decide +kernel
set_option maxRecDepth 100000 in
theorem zzc_144 : z_okC q_D q_m144 = true := by decide +kernel
set_option maxRecDepth 100000 in
theorem zzh_145 : q_okH q_D q_m145 = true := by decide +kernel
set_option maxRecDepth 100000 in
theorem zzc_145 : z_okC q_D q_m145 = true := by decide +kernel
set_option maxRecDepth 100000 in
theorem zzh_146 : q_okH q_D q_m146 = true := by decide +kernel
set_option maxRecDepth 100000 in
theorem zzc_146 : z_okC q_D q_m146 = true := by decide +kernel
set_option maxRecDepth 100000 in
theorem zzh_147 : q_okH q_D q_m147 = true := by decide +kernel
set_option maxRecDepth 100000 in
theorem zzc_147 : z_okC q_D q_m147 = true := by decide +kernel
set_option maxRecDepth 100000 in
theorem zzh_148 : q_okH q_D q_m148 = true := by decide +kernel
set_option maxRecDepth 100000 in
theorem zzc_148 : z_okC q_D q_m148 = true := by decide +kernel
set_option maxRecDepth 100000 in
theorem zzh_149 : q_okH q_D q_m149 = true := by decide +kernel
set_option maxRecDepth 100000 in
theorem zzc_149 : z_okC q_D q_m149 = true := by decide +kernel
set_option maxRecDepth 100000 in
theorem zzh_150 : q_okH q_D q_m150 = true := by decide +kernel
set_option maxRecDepth 100000 in
theorem zzc_150 : z_okC q_D q_m150 = true := by decide +kernel
set_option maxRecDepth 100000 in
theorem zzh_151 : q_okH q_D q_m151 = true := by decide +kernel
set_option maxRecDepth 100000 in
theorem zzc_151 : z_okC q_D q_m151 = true := by decide +kernel
set_option maxRecDepth 100000 in
theorem zzh_152 : q_okH q_D q_m152 = true := by decide +kernel
set_option maxRecDepth 100000 in
theorem zzc_152 : z_okC q_D q_m152 = true := by decide +kernel
set_option maxRecDepth 100000 in
theorem zzh_153 : q_okH q_D q_m153 = true := by decide +kernel
set_option maxRecDepth 100000 in
theorem zzc_153 : z_okC q_D q_m153 = true := by decide +kernel
set_option maxRecDepth 100000 in
theorem zzh_154 : q_okH q_D q_m154 = true := by decide +kernel
set_option maxRecDepth 100000 in
theorem zzc_154 : z_okC q_D q_m154 = true := by decide +kernel
set_option maxRecDepth 100000 in
theorem zzh_155 : q_okH q_D q_m155 = true := by decide +kernel
set_option maxRecDepth 100000 in
theorem zzc_155 : z_okC q_D q_m155 = true := by decide +kernel
set_option maxRecDepth 100000 in
theorem zzh_156 : q_okH q_D q_m156 = true := by decide +kernel
set_option maxRecDepth 100000 in
theorem zzc_156 : z_okC q_D q_m156 = true := by decide +kernel
set_option maxRecDepth 100000 in
theorem zzh_157 : q_okH q_D q_m157 = true := by decide +kernel
set_option maxRecDepth 100000 in
theorem zzc_157 : z_okC q_D q_m157 = true := by decide +kernel
set_option maxRecDepth 100000 in
theorem zzh_158 : q_okH q_D q_m158 = true := by decide +kernel
set_option maxRecDepth 100000 in
theorem zzc_158 : z_okC q_D q_m158 = true := by decide +kernel
set_option maxRecDepth 100000 in
theorem zzh_159 : q_okH q_D q_m159 = true := by decide +kernel
set_option maxRecDepth 100000 in
theorem zzc_159 : z_okC q_D q_m159 = true := by decide +kernel
