set_option maxRecDepth 100000 in
theorem jwc_81 : Cond.code jq_81.1 jq_81.2.1 jq_81.2.2.1 jq_81.2.2.2.1 ∈ jm_gw := List.mem_filter.mpr ⟨jtabs_ok 5 _ (List.mem_of_getElem? (i := 54) rfl), rfl⟩
set_option maxRecDepth 100000 in
theorem jwc_82 : Cond.code jq_82.1 jq_82.2.1 jq_82.2.2.1 jq_82.2.2.2.1 ∈ jm_gw := List.mem_filter.mpr ⟨jtabs_ok 5 _ (List.mem_of_getElem? (i := 58) rfl), rfl⟩
set_option maxRecDepth 100000 in
theorem jwc_83 : Cond.code jq_83.1 jq_83.2.1 jq_83.2.2.1 jq_83.2.2.2.1 ∈ jm_gw := List.mem_filter.mpr ⟨jtabs_ok 5 _ (List.mem_of_getElem? (i := 63) rfl), rfl⟩
set_option maxRecDepth 100000 in
theorem jwc_84 : Cond.code jq_84.1 jq_84.2.1 jq_84.2.2.1 jq_84.2.2.2.1 ∈ jm_gw := List.mem_filter.mpr ⟨jtabs_ok 5 _ (List.mem_of_getElem? (i := 33) rfl), rfl⟩
set_option maxRecDepth 100000 in
theorem jwc_85 : Cond.code jq_85.1 jq_85.2.1 jq_85.2.2.1 jq_85.2.2.2.1 ∈ jm_gw := List.mem_filter.mpr ⟨jtabs_ok 5 _ (List.mem_of_getElem? (i := 50) rfl), rfl⟩
set_option maxRecDepth 100000 in
theorem jwc_86 : Cond.code jq_86.1 jq_86.2.1 jq_86.2.2.1 jq_86.2.2.2.1 ∈ jm_gw := List.mem_filter.mpr ⟨jtabs_ok 2 _ (List.mem_of_getElem? (i := 173) rfl), rfl⟩
set_option maxRecDepth 100000 in
theorem jwc_87 : Cond.code jq_87.1 jq_87.2.1 jq_87.2.2.1 jq_87.2.2.2.1 ∈ jm_gw := List.mem_filter.mpr ⟨jtabs_ok 3 _ (List.mem_of_getElem? (i := 232) rfl), rfl⟩
set_option maxRecDepth 100000 in
theorem jwc_88 : Cond.code jq_88.1 jq_88.2.1 jq_88.2.2.1 jq_88.2.2.2.1 ∈ jm_gw := List.mem_filter.mpr ⟨jtabs_ok 5 _ (List.mem_of_getElem? (i := 40) rfl), rfl⟩
set_option maxRecDepth 100000 in
theorem jwc_89 : Cond.code jq_89.1 jq_89.2.1 jq_89.2.2.1 jq_89.2.2.2.1 ∈ jm_gw := List.mem_filter.mpr ⟨jtabs_ok 5 _ (List.mem_of_getElem? (i := 98) rfl), rfl⟩
set_option maxRecDepth 100000 in
theorem jwc_90 : Cond.code jq_90.1 jq_90.2.1 jq_90.2.2.1 jq_90.2.2.2.1 ∈ jm_gw := List.mem_filter.mpr ⟨jtabs_ok 5 _ (List.mem_of_getElem? (i := 102) rfl), rfl⟩
set_option maxRecDepth 100000 in
theorem jwc_91 : Cond.code jq_91.1 jq_91.2.1 jq_91.2.2.1 jq_91.2.2.2.1 ∈ jm_gw := List.mem_filter.mpr ⟨jtabs_ok 5 _ (List.mem_of_getElem? (i := 37) rfl), rfl⟩
set_option maxRecDepth 100000 in
theorem jwc_92 : Cond.code jq_92.1 jq_92.2.1 jq_92.2.2.1 jq_92.2.2.2.1 ∈ jm_gw := List.mem_filter.mpr ⟨jtabs_ok 1 _ (List.mem_of_getElem? (i := 28) rfl), rfl⟩
set_option maxRecDepth 100000 in
theorem jwc_93 : Cond.code jq_93.1 jq_93.2.1 jq_93.2.2.1 jq_93.2.2.2.1 ∈ jm_gw := List.mem_filter.mpr ⟨jtabs_ok 5 _ (List.mem_of_getElem? (i := 152) rfl), rfl⟩
set_option maxRecDepth 100000 in
theorem jwc_94 : Cond.code jq_94.1 jq_94.2.1 jq_94.2.2.1 jq_94.2.2.2.1 ∈ jm_gw := List.mem_filter.mpr ⟨jtabs_ok 3 _ (List.mem_of_getElem? (i := 102) rfl), rfl⟩
set_option maxRecDepth 100000 in
theorem jwc_95 : Cond.code jq_95.1 jq_95.2.1 jq_95.2.2.1 jq_95.2.2.2.1 ∈ jm_gw := List.mem_filter.mpr ⟨jtabs_ok 3 _ (List.mem_of_getElem? (i := 81) rfl), rfl⟩
set_option maxRecDepth 100000 in
theorem jwc_96 : Cond.code jq_96.1 jq_96.2.1 jq_96.2.2.1 jq_96.2.2.2.1 ∈ jm_gw := List.mem_filter.mpr ⟨jtabs_ok 3 _ (List.mem_of_getElem? (i := 64) rfl), rfl⟩
set_option maxRecDepth 100000 in
theorem jwc_97 : Cond.code jq_97.1 jq_97.2.1 jq_97.2.2.1 jq_97.2.2.2.1 ∈ jm_gw := List.mem_filter.mpr ⟨jtabs_ok 3 _ (List.mem_of_getElem? (i := 122) rfl), rfl⟩
set_option maxRecDepth 100000 in
theorem jwc_98 : Cond.code jq_98.1 jq_98.2.1 jq_98.2.2.1 jq_98.2.2.2.1 ∈ jm_gw := List.mem_filter.mpr ⟨jtabs_ok 4 _ (List.mem_of_getElem? (i := 16) rfl), rfl⟩
set_option maxRecDepth 100000 in
theorem jwc_99 : Cond.code jq_99.1 jq_99.2.1 jq_99.2.2.1 jq_99.2.2.2.1 ∈ jm_gw := List.mem_filter.mpr ⟨jtabs_ok 3 _ (List.mem_of_getElem? (i := 118) rfl), rfl⟩
set_option maxRecDepth 100000 in
theorem jwc_100 : Cond.code jq_100.1 jq_100.2.1 jq_100.2.2.1 jq_100.2.2.2.1 ∈ jm_gw := List.mem_filter.mpr ⟨jtabs_ok 3 _ (List.mem_of_getElem? (i := 208) rfl), rfl⟩
set_option maxRecDepth 100000 in
theorem jwc_101 : Cond.code jq_101.1 jq_101.2.1 jq_101.2.2.1 jq_101.2.2.2.1 ∈ jm_gw := List.mem_filter.mpr ⟨jtabs_ok 3 _ (List.mem_of_getElem? (i := 77) rfl), rfl⟩
set_option maxRecDepth 100000 in
theorem jwc_102 : Cond.code jq_102.1 jq_102.2.1 jq_102.2.2.1 jq_102.2.2.2.1 ∈ jm_gw := List.mem_filter.mpr ⟨jtabs_ok 3 _ (List.mem_of_getElem? (i := 99) rfl), rfl⟩
set_option maxRecDepth 100000 in
theorem jwc_103 : Cond.code jq_103.1 jq_103.2.1 jq_103.2.2.1 jq_103.2.2.2.1 ∈ jm_gw := List.mem_filter.mpr ⟨jtabs_ok 3 _ (List.mem_of_getElem? (i := 106) rfl), rfl⟩
set_option maxRecDepth 100000 in
theorem jwc_104 : Cond.code jq_104.1 jq_104.2.1 jq_104.2.2.1 jq_104.2.2.2.1 ∈ jm_gw := List.mem_filter.mpr ⟨jtabs_ok 3 _ (List.mem_of_getElem? (i := 68) rfl), rfl⟩
set_option maxRecDepth 100000 in
theorem jwc_105 : Cond.code jq_105.1 jq_105.2.1 jq_105.2.2.1 jq_105.2.2.2.1 ∈ jm_gw := List.mem_filter.mpr ⟨jtabs_ok 3 _ (List.mem_of_getElem? (i := 159) rfl), rfl⟩
set_option maxRecDepth 100000 in
theorem jwc_106 : Cond.code jq_106.1 jq_106.2.1 jq_106.2.2.1 jq_106.2.2.2.1 ∈ jm_gw := List.mem_filter.mpr ⟨jtabs_ok 3 _ (List.mem_of_getElem? (i := 110) rfl), rfl⟩
set_option maxRecDepth 100000 in
theorem jwc_107 : Cond.code jq_107.1 jq_107.2.1 jq_107.2.2.1 jq_107.2.2.2.1 ∈ jm_gw := List.mem_filter.mpr ⟨jtabs_ok 3 _ (List.mem_of_getElem? (i := 72) rfl), rfl⟩
set_option maxRecDepth 100000 in
theorem jwc_108 : Cond.code jq_108.1 jq_108.2.1 jq_108.2.2.1 jq_108.2.2.2.1 ∈ jm_gw := List.mem_filter.mpr ⟨jtabs_ok 1 _ (List.mem_of_getElem? (i := 20) rfl), rfl⟩
set_option maxRecDepth 100000 in
theorem jwc_109 : Cond.code jq_109.1 jq_109.2.1 jq_109.2.2.1 jq_109.2.2.2.1 ∈ jm_gw := List.mem_filter.mpr ⟨jtabs_ok 3 _ (List.mem_of_getElem? (i := 60) rfl), rfl⟩
set_option maxRecDepth 100000 in
theorem jwc_110 : Cond.code jq_110.1 jq_110.2.1 jq_110.2.2.1 jq_110.2.2.2.1 ∈ jm_gw := List.mem_filter.mpr ⟨jtabs_ok 3 _ (List.mem_of_getElem? (i := 85) rfl), rfl⟩
set_option maxRecDepth 100000 in
theorem jwc_111 : Cond.code jq_111.1 jq_111.2.1 jq_111.2.2.1 jq_111.2.2.2.1 ∈ jm_gw := List.mem_filter.mpr ⟨jtabs_ok 3 _ (List.mem_of_getElem? (i := 89) rfl), rfl⟩
set_option maxRecDepth 100000 in
theorem jwc_112 : Cond.code jq_112.1 jq_112.2.1 jq_112.2.2.1 jq_112.2.2.2.1 ∈ jm_gw := List.mem_filter.mpr ⟨jtabs_ok 3 _ (List.mem_of_getElem? (i := 114) rfl), rfl⟩
set_option maxRecDepth 100000 in
theorem jwc_113 : Cond.code jq_113.1 jq_113.2.1 jq_113.2.2.1 jq_113.2.2.2.1 ∈ jm_gw := List.mem_filter.mpr ⟨jtabs_ok 3 _ (List.mem_of_getElem? (i := 126) rfl), rfl⟩
set_option maxRecDepth 100000 in
theorem jwc_114 : Cond.code jq_114.1 jq_114.2.1 jq_114.2.2.1 jq_114.2.2.2.1 ∈ jm_gw := List.mem_filter.mpr ⟨jtabs_ok 3 _ (List.mem_of_getElem? (i := 136) rfl), rfl⟩
set_option maxRecDepth 100000 in
theorem jwc_115 : Cond.code jq_115.1 jq_115.2.1 jq_115.2.2.1 jq_115.2.2.2.1 ∈ jm_gw := List.mem_filter.mpr ⟨jtabs_ok 3 _ (List.mem_of_getElem? (i := 148) rfl), rfl⟩
set_option maxRecDepth 100000 in
theorem jwc_116 : Cond.code jq_116.1 jq_116.2.1 jq_116.2.2.1 jq_116.2.2.2.1 ∈ jm_gw := List.mem_filter.mpr ⟨jtabs_ok 3 _ (List.mem_of_getElem? (i := 167) rfl), rfl⟩
set_option maxRecDepth 100000 in
theorem jwc_117 : Cond.code jq_117.1 jq_117.2.1 jq_117.2.2.1 jq_117.2.2.2.1 ∈ jm_gw := List.mem_filter.mpr ⟨jtabs_ok 3 _ (List.mem_of_getElem? (i := 220) rfl), rfl⟩
set_option maxRecDepth 100000 in
theorem jwc_118 : Cond.code jq_118.1 jq_118.2.1 jq_118.2.2.1 jq_118.2.2.2.1 ∈ jm_gw := List.mem_filter.mpr ⟨jtabs_ok 4 _ (List.mem_of_getElem? (i := 1) rfl), rfl⟩
set_option maxRecDepth 100000 in
theorem jwc_119 : Cond.code jq_119.1 jq_119.2.1 jq_119.2.2.1 jq_119.2.2.2.1 ∈ jm_gw := List.mem_filter.mpr ⟨jtabs_ok 4 _ (List.mem_of_getElem? (i := 21) rfl), rfl⟩
set_option maxRecDepth 100000 in
theorem jwc_120 : Cond.code jq_120.1 jq_120.2.1 jq_120.2.2.1 jq_120.2.2.2.1 ∈ jm_gw := List.mem_filter.mpr ⟨jtabs_ok 4 _ (List.mem_of_getElem? (i := 33) rfl), rfl⟩
set_option maxRecDepth 100000 in
theorem jwc_121 : Cond.code jq_121.1 jq_121.2.1 jq_121.2.2.1 jq_121.2.2.2.1 ∈ jm_gw := List.mem_filter.mpr ⟨jtabs_ok 4 _ (List.mem_of_getElem? (i := 37) rfl), rfl⟩
set_option maxRecDepth 100000 in
theorem jwc_122 : Cond.code jq_122.1 jq_122.2.1 jq_122.2.2.1 jq_122.2.2.2.1 ∈ jm_gw := List.mem_filter.mpr ⟨jtabs_ok 4 _ (List.mem_of_getElem? (i := 49) rfl), rfl⟩
set_option maxRecDepth 100000 in
theorem jwc_123 : Cond.code jq_123.1 jq_123.2.1 jq_123.2.2.1 jq_123.2.2.2.1 ∈ jm_gw := List.mem_filter.mpr ⟨jtabs_ok 4 _ (List.mem_of_getElem? (i := 60) rfl), rfl⟩
set_option maxRecDepth 100000 in
theorem jwc_124 : Cond.code jq_124.1 jq_124.2.1 jq_124.2.2.1 jq_124.2.2.2.1 ∈ jm_gw := List.mem_filter.mpr ⟨jtabs_ok 4 _ (List.mem_of_getElem? (i := 64) rfl), rfl⟩
set_option maxRecDepth 100000 in
theorem jwc_125 : Cond.code jq_125.1 jq_125.2.1 jq_125.2.2.1 jq_125.2.2.2.1 ∈ jm_gw := List.mem_filter.mpr ⟨jtabs_ok 4 _ (List.mem_of_getElem? (i := 147) rfl), rfl⟩
set_option maxRecDepth 100000 in
theorem jwc_126 : Cond.code jq_126.1 jq_126.2.1 jq_126.2.2.1 jq_126.2.2.2.1 ∈ jm_gw := List.mem_filter.mpr ⟨jtabs_ok 4 _ (List.mem_of_getElem? (i := 166) rfl), rfl⟩
set_option maxRecDepth 100000 in
theorem jwc_127 : Cond.code jq_127.1 jq_127.2.1 jq_127.2.2.1 jq_127.2.2.2.1 ∈ jm_gw := List.mem_filter.mpr ⟨jtabs_ok 4 _ (List.mem_of_getElem? (i := 170) rfl), rfl⟩
set_option maxRecDepth 100000 in
theorem jwc_128 : Cond.code jq_128.1 jq_128.2.1 jq_128.2.2.1 jq_128.2.2.2.1 ∈ jm_gw := List.mem_filter.mpr ⟨jtabs_ok 4 _ (List.mem_of_getElem? (i := 197) rfl), rfl⟩
set_option maxRecDepth 100000 in
theorem jwc_129 : Cond.code jq_129.1 jq_129.2.1 jq_129.2.2.1 jq_129.2.2.2.1 ∈ jm_gw := List.mem_filter.mpr ⟨jtabs_ok 4 _ (List.mem_of_getElem? (i := 205) rfl), rfl⟩
set_option maxRecDepth 100000 in
theorem jwc_130 : Cond.code jq_130.1 jq_130.2.1 jq_130.2.2.1 jq_130.2.2.2.1 ∈ jm_gw := List.mem_filter.mpr ⟨jtabs_ok 4 _ (List.mem_of_getElem? (i := 209) rfl), rfl⟩
set_option maxRecDepth 100000 in
theorem jwc_131 : Cond.code jq_131.1 jq_131.2.1 jq_131.2.2.1 jq_131.2.2.2.1 ∈ jm_gw := List.mem_filter.mpr ⟨jtabs_ok 4 _ (List.mem_of_getElem? (i := 235) rfl), rfl⟩
set_option maxRecDepth 100000 in
theorem jwc_132 : Cond.code jq_132.1 jq_132.2.1 jq_132.2.2.1 jq_132.2.2.2.1 ∈ jm_gw := List.mem_filter.mpr ⟨jtabs_ok 5 _ (List.mem_of_getElem? (i := 3) rfl), rfl⟩
set_option maxRecDepth 100000 in
theorem jwc_133 : Cond.code jq_133.1 jq_133.2.1 jq_133.2.2.1 jq_133.2.2.2.1 ∈ jm_gw := List.mem_filter.mpr ⟨jtabs_ok 5 _ (List.mem_of_getElem? (i := 106) rfl), rfl⟩
set_option maxRecDepth 100000 in
theorem jwc_134 : Cond.code jq_134.1 jq_134.2.1 jq_134.2.2.1 jq_134.2.2.2.1 ∈ jm_gw := List.mem_filter.mpr ⟨jtabs_ok 5 _ (List.mem_of_getElem? (i := 114) rfl), rfl⟩
set_option maxRecDepth 100000 in
theorem jwc_135 : Cond.code jq_135.1 jq_135.2.1 jq_135.2.2.1 jq_135.2.2.2.1 ∈ jm_gw := List.mem_filter.mpr ⟨jtabs_ok 5 _ (List.mem_of_getElem? (i := 118) rfl), rfl⟩
set_option maxRecDepth 100000 in
theorem jwc_136 : Cond.code jq_136.1 jq_136.2.1 jq_136.2.2.1 jq_136.2.2.2.1 ∈ jm_gw := List.mem_filter.mpr ⟨jtabs_ok 5 _ (List.mem_of_getElem? (i := 133) rfl), rfl⟩
set_option maxRecDepth 100000 in
theorem jwc_137 : Cond.code jq_137.1 jq_137.2.1 jq_137.2.2.1 jq_137.2.2.2.1 ∈ jm_gw := List.mem_filter.mpr ⟨jtabs_ok 5 _ (List.mem_of_getElem? (i := 137) rfl), rfl⟩
set_option maxRecDepth 100000 in
theorem jwc_138 : Cond.code jq_138.1 jq_138.2.1 jq_138.2.2.1 jq_138.2.2.2.1 ∈ jm_gw := List.mem_filter.mpr ⟨jtabs_ok 5 _ (List.mem_of_getElem? (i := 144) rfl), rfl⟩
set_option maxRecDepth 100000 in
theorem jwc_139 : Cond.code jq_139.1 jq_139.2.1 jq_139.2.2.1 jq_139.2.2.2.1 ∈ jm_gw := List.mem_filter.mpr ⟨jtabs_ok 3 _ (List.mem_of_getElem? (i := 132) rfl), rfl⟩
set_option maxRecDepth 100000 in
theorem jwc_140 : Cond.code jq_140.1 jq_140.2.1 jq_140.2.2.1 jq_140.2.2.2.1 ∈ jm_gw := List.mem_filter.mpr ⟨jtabs_ok 3 _ (List.mem_of_getElem? (i := 129) rfl), rfl⟩
set_option maxRecDepth 100000 in
theorem jwc_141 : Cond.code jq_141.1 jq_141.2.1 jq_141.2.2.1 jq_141.2.2.2.1 ∈ jm_gw := List.mem_filter.mpr ⟨jtabs_ok 3 _ (List.mem_of_getElem? (i := 155) rfl), rfl⟩
set_option maxRecDepth 100000 in
theorem jwc_142 : Cond.code jq_142.1 jq_142.2.1 jq_142.2.2.1 jq_142.2.2.2.1 ∈ jm_gw := List.mem_filter.mpr ⟨jtabs_ok 3 _ (List.mem_of_getElem? (i := 94) rfl), rfl⟩
set_option maxRecDepth 100000 in
theorem jwc_143 : Cond.code jq_143.1 jq_143.2.1 jq_143.2.2.1 jq_143.2.2.2.1 ∈ jm_gw := List.mem_filter.mpr ⟨jtabs_ok 4 _ (List.mem_of_getElem? (i := 174) rfl), rfl⟩
set_option maxRecDepth 100000 in
theorem jwc_144 : Cond.code jq_144.1 jq_144.2.1 jq_144.2.2.1 jq_144.2.2.2.1 ∈ jm_gw := List.mem_filter.mpr ⟨jtabs_ok 5 _ (List.mem_of_getElem? (i := 157) rfl), rfl⟩
set_option maxRecDepth 100000 in
theorem jwc_145 : Cond.code jq_145.1 jq_145.2.1 jq_145.2.2.1 jq_145.2.2.2.1 ∈ jm_gw := List.mem_filter.mpr ⟨jtabs_ok 6 _ (List.mem_of_getElem? (i := 191) rfl), rfl⟩
set_option maxRecDepth 100000 in
theorem jwc_146 : Cond.code jq_146.1 jq_146.2.1 jq_146.2.2.1 jq_146.2.2.2.1 ∈ jm_gw := List.mem_filter.mpr ⟨jtabs_ok 5 _ (List.mem_of_getElem? (i := 162) rfl), rfl⟩
set_option maxRecDepth 100000 in
theorem jwc_147 : Cond.code jq_147.1 jq_147.2.1 jq_147.2.2.1 jq_147.2.2.2.1 ∈ jm_gw := List.mem_filter.mpr ⟨jtabs_ok 6 _ (List.mem_of_getElem? (i := 175) rfl), rfl⟩
set_option maxRecDepth 100000 in
theorem jwc_148 : Cond.code jq_148.1 jq_148.2.1 jq_148.2.2.1 jq_148.2.2.2.1 ∈ jm_gw := List.mem_filter.mpr ⟨jtabs_ok 6 _ (List.mem_of_getElem? (i := 207) rfl), rfl⟩
set_option maxRecDepth 100000 in
theorem jwc_149 : Cond.code jq_149.1 jq_149.2.1 jq_149.2.2.1 jq_149.2.2.2.1 ∈ jm_gw := List.mem_filter.mpr ⟨jtabs_ok 6 _ (List.mem_of_getElem? (i := 179) rfl), rfl⟩
set_option maxRecDepth 100000 in
theorem jwc_150 : Cond.code jq_150.1 jq_150.2.1 jq_150.2.2.1 jq_150.2.2.2.1 ∈ jm_gw := List.mem_filter.mpr ⟨jtabs_ok 6 _ (List.mem_of_getElem? (i := 183) rfl), rfl⟩
set_option maxRecDepth 100000 in
theorem jwc_151 : Cond.code jq_151.1 jq_151.2.1 jq_151.2.2.1 jq_151.2.2.2.1 ∈ jm_gw := List.mem_filter.mpr ⟨jtabs_ok 6 _ (List.mem_of_getElem? (i := 172) rfl), rfl⟩
set_option maxRecDepth 100000 in
theorem jwc_152 : Cond.code jq_152.1 jq_152.2.1 jq_152.2.2.1 jq_152.2.2.2.1 ∈ jm_gw := List.mem_filter.mpr ⟨jtabs_ok 6 _ (List.mem_of_getElem? (i := 168) rfl), rfl⟩
set_option maxRecDepth 100000 in
theorem jwc_153 : Cond.code jq_153.1 jq_153.2.1 jq_153.2.2.1 jq_153.2.2.2.1 ∈ jm_gw := List.mem_filter.mpr ⟨jtabs_ok 7 _ (List.mem_of_getElem? (i := 86) rfl), rfl⟩
set_option maxRecDepth 100000 in
theorem jwc_154 : Cond.code jq_154.1 jq_154.2.1 jq_154.2.2.1 jq_154.2.2.2.1 ∈ jm_gw := List.mem_filter.mpr ⟨jtabs_ok 6 _ (List.mem_of_getElem? (i := 199) rfl), rfl⟩
set_option maxRecDepth 100000 in
theorem jwc_155 : Cond.code jq_155.1 jq_155.2.1 jq_155.2.2.1 jq_155.2.2.2.1 ∈ jm_gw := List.mem_filter.mpr ⟨jtabs_ok 6 _ (List.mem_of_getElem? (i := 164) rfl), rfl⟩
set_option maxRecDepth 100000 in
theorem jwc_156 : Cond.code jq_156.1 jq_156.2.1 jq_156.2.2.1 jq_156.2.2.2.1 ∈ jm_gw := List.mem_filter.mpr ⟨jtabs_ok 6 _ (List.mem_of_getElem? (i := 187) rfl), rfl⟩
set_option maxRecDepth 100000 in
theorem jwc_157 : Cond.code jq_157.1 jq_157.2.1 jq_157.2.2.1 jq_157.2.2.2.1 ∈ jm_gw := List.mem_filter.mpr ⟨jtabs_ok 6 _ (List.mem_of_getElem? (i := 203) rfl), rfl⟩
set_option maxRecDepth 100000 in
theorem jwc_158 : Cond.code jq_158.1 jq_158.2.1 jq_158.2.2.1 jq_158.2.2.2.1 ∈ jm_gw := List.mem_filter.mpr ⟨jtabs_ok 6 _ (List.mem_of_getElem? (i := 195) rfl), rfl⟩
set_option maxRecDepth 100000 in
theorem jwc_159 : Cond.code jq_159.1 jq_159.2.1 jq_159.2.2.1 jq_159.2.2.2.1 ∈ jm_gw := List.mem_filter.mpr ⟨jtabs_ok 6 _ (List.mem_of_getElem? (i := 211) rfl), rfl⟩
set_option maxRecDepth 100000 in
theorem jwc_160 : Cond.code jq_160.1 jq_160.2.1 jq_160.2.2.1 jq_160.2.2.2.1 ∈ jm_gw := List.mem_filter.mpr ⟨jtabs_ok 6 _ (List.mem_of_getElem? (i := 217) rfl), rfl⟩
