theorem gk_ok_73 : gw_okC gm_73 = true := by decide +kernel
theorem gk_ok_74 : gw_okC gm_74 = true := by decide +kernel
theorem gk_ok_75 : gw_okC gm_75 = true := by decide +kernel
theorem gk_ok_76_0 : (gk_76.take 50).all (gw_okI gm_76.1 gm_76.2.2.1) = true := by decide +kernel
theorem gk_ok_76_1 : (gk_76.drop 50).all (gw_okI gm_76.1 gm_76.2.2.1) = true := by decide +kernel
theorem gk_ok_76 : gw_okC gm_76 = true := gw_splitC 50 gk_ok_76_0 (gk_ok_76_1)
theorem gk_ok_77 : gw_okC gm_77 = true := by decide +kernel
theorem gk_ok_78 : gw_okC gm_78 = true := by decide +kernel
theorem gk_ok_79 : gw_okC gm_79 = true := by decide +kernel
theorem gk_ok_80 : gw_okC gm_80 = true := by decide +kernel
theorem gk_ok_81 : gw_okC gm_81 = true := by decide +kernel
theorem gk_ok_82 : gw_okC gm_82 = true := by decide +kernel
theorem gk_ok_83 : gw_okC gm_83 = true := by decide +kernel
theorem gk_ok_84 : gw_okC gm_84 = true := by decide +kernel
theorem gk_ok_85 : gw_okC gm_85 = true := by decide +kernel
theorem gk_ok_86 : gw_okC gm_86 = true := by decide +kernel
theorem gk_ok_87 : gw_okC gm_87 = true := by decide +kernel
theorem gk_ok_88 : gw_okC gm_88 = true := by decide +kernel
theorem gk_ok_89 : gw_okC gm_89 = true := by decide +kernel
theorem gk_ok_90_0 : (gk_90.take 50).all (gw_okI gm_90.1 gm_90.2.2.1) = true := by decide +kernel
theorem gk_ok_90_1 : (gk_90.drop 50).all (gw_okI gm_90.1 gm_90.2.2.1) = true := by decide +kernel
theorem gk_ok_90 : gw_okC gm_90 = true := gw_splitC 50 gk_ok_90_0 (gk_ok_90_1)
theorem gk_ok_91 : gw_okC gm_91 = true := by decide +kernel
theorem gk_ok_92 : gw_okC gm_92 = true := by decide +kernel
theorem gk_ok_93 : gw_okC gm_93 = true := by decide +kernel
theorem gk_ok_94 : gw_okC gm_94 = true := by decide +kernel
theorem gk_ok_95 : gw_okC gm_95 = true := by decide +kernel
theorem gk_ok_96 : gw_okC gm_96 = true := by decide +kernel
theorem gk_ok_97 : gw_okC gm_97 = true := by decide +kernel
theorem gk_ok_98 : gw_okC gm_98 = true := by decide +kernel
theorem gk_ok_99 : gw_okC gm_99 = true := by decide +kernel
theorem gk_ok_100 : gw_okC gm_100 = true := by decide +kernel
theorem gk_ok_101 : gw_okC gm_101 = true := by decide +kernel
theorem gk_ok_102 : gw_okC gm_102 = true := by decide +kernel
theorem gk_ok_103 : gw_okC gm_103 = true := by decide +kernel
theorem gk_ok_104 : gw_okC gm_104 = true := by decide +kernel
theorem gk_ok_105 : gw_okC gm_105 = true := by decide +kernel
theorem gk_ok_106 : gw_okC gm_106 = true := by decide +kernel
theorem gk_ok_107 : gw_okC gm_107 = true := by decide +kernel
theorem gk_ok_108 : gw_okC gm_108 = true := by decide +kernel
theorem gk_ok_109 : gw_okC gm_109 = true := by decide +kernel
theorem gk_ok_110 : gw_okC gm_110 = true := by decide +kernel
theorem gk_ok_111 : gw_okC gm_111 = true := by decide +kernel
theorem gk_ok_112 : gw_okC gm_112 = true := by decide +kernel
theorem gk_ok_113 : gw_okC gm_113 = true := by decide +kernel
theorem gk_ok_114 : gw_okC gm_114 = true := by decide +kernel
theorem gk_ok_115 : gw_okC gm_115 = true := by decide +kernel
theorem gk_ok_116 : gw_okC gm_116 = true := by decide +kernel
theorem gk_ok_117 : gw_okC gm_117 = true := by decide +kernel
theorem gk_ok_118 : gw_okC gm_118 = true := by decide +kernel
theorem gk_ok_119 : gw_okC gm_119 = true := by decide +kernel
theorem gk_ok_120 : gw_okC gm_120 = true := by decide +kernel
theorem gk_ok_121 : gw_okC gm_121 = true := by decide +kernel
theorem gk_ok_122 : gw_okC gm_122 = true := by decide +kernel
theorem gk_ok_123 : gw_okC gm_123 = true := by decide +kernel
theorem gk_ok_124 : gw_okC gm_124 = true := by decide +kernel
theorem gk_ok_125 : gw_okC gm_125 = true := by decide +kernel
theorem gk_ok_126 : gw_okC gm_126 = true := by decide +kernel
theorem gk_ok_127 : gw_okC gm_127 = true := by decide +kernel
theorem gk_ok_128 : gw_okC gm_128 = true := by decide +kernel
theorem gk_ok_129 : gw_okC gm_129 = true := by decide +kernel
theorem gk_ok_130 : gw_okC gm_130 = true := by decide +kernel
theorem gk_ok_131 : gw_okC gm_131 = true := by decide +kernel
theorem gk_ok_132 : gw_okC gm_132 = true := by decide +kernel
theorem gk_ok_133 : gw_okC gm_133 = true := by decide +kernel
theorem gk_ok_134 : gw_okC gm_134 = true := by decide +kernel
theorem gk_ok_135 : gw_okC gm_135 = true := by decide +kernel
theorem gk_ok_136 : gw_okC gm_136 = true := by decide +kernel
theorem gk_ok_137 : gw_okC gm_137 = true := by decide +kernel
theorem gk_ok_138 : gw_okC gm_138 = true := by decide +kernel
theorem gk_ok_139 : gw_okC gm_139 = true := by decide +kernel
theorem gk_ok_140 : gw_okC gm_140 = true := by decide +kernel
theorem gk_ok_141 : gw_okC gm_141 = true := by decide +kernel
theorem gk_ok_142 : gw_okC gm_142 = true := by decide +kernel
theorem gk_ok_143 : gw_okC gm_143 = true := by decide +kernel
theorem gk_ok_144 : gw_okC gm_144 = true := by decide +kernel
theorem gk_ok_145 : gw_okC gm_145 = true := by decide +kernel
theorem gk_ok_146 : gw_okC gm_146 = true := by decide +kernel
theorem gk_ok_147 : gw_okC gm_147 = true := by decide +kernel
theorem gk_ok_148 : gw_okC gm_148 = true := by decide +kernel
theorem gk_ok_149 : gw_okC gm_149 = true := by decide +kernel
theorem gk_ok_150 : gw_okC gm_150 = true := by decide +kernel
theorem gk_ok_151 : gw_okC gm_151 = true := by decide +kernel
theorem gk_ok_152 : gw_okC gm_152 = true := by decide +kernel
theorem gk_ok_153 : gw_okC gm_153 = true := by decide +kernel
theorem gk_ok_154 : gw_okC gm_154 = true := by decide +kernel
theorem gk_ok_155 : gw_okC gm_155 = true := by decide +kernel
theorem gk_ok_156 : gw_okC gm_156 = true := by decide +kernel
theorem gk_ok_157_0 : (gk_157.take 50).all (gw_okI gm_157.1 gm_157.2.2.1) = true := by decide +kernel
theorem gk_ok_157_1 : ((gk_157.drop 50).take 50).all (gw_okI gm_157.1 gm_157.2.2.1) = true := by decide +kernel
theorem gk_ok_157_2 : ((gk_157.drop 50).drop 50).all (gw_okI gm_157.1 gm_157.2.2.1) = true := by decide +kernel
theorem gk_ok_157 : gw_okC gm_157 = true := gw_splitC 50 gk_ok_157_0 (gw_splitC 50 gk_ok_157_1 (gk_ok_157_2))
