/-! What the tables say of the pools -/
def ri_CP (own : String) (q : Nat × Nat × Nat) : Prop := match q.2.1 with
  | 3 => Cond.methodLink own q.1 Lib.Math.max.name ∈ ri_TW
  | 4 => Cond.methodLink own q.1 Lib.Math.min.name ∈ ri_TW
  | 5 => Cond.methodLink own q.1 Lib.objectInit ∈ ri_TW
  | k => Cond.methodLink own q.1 (ri_nm q.2.2) ∈ ri_TW ∧ ri_kd q.2.2 = k ∧ ri_MP q.2.2
theorem ri_cp0_3 : ri_CP "RoleDesk" (3, 5, 0) := (ri_tw1 (i := 16) rfl rfl)
theorem ri_cp0_34 : ri_CP "RoleDesk" (34, 4, 0) := (ri_tw1 (i := 19) rfl rfl)
theorem ri_cp0_40 : ri_CP "RoleDesk" (40, 3, 0) := (ri_tw1 (i := 22) rfl rfl)
theorem ri_cp0_54 : ri_CP "RoleDesk" (54, 0, 28) := ⟨(ri_tw1 (i := 91) rfl rfl), rfl, ri_mp28⟩
theorem ri_cp0_57 : ri_CP "RoleDesk" (57, 0, 32) := ⟨(ri_tw1 (i := 94) rfl rfl), rfl, ri_mp32⟩
theorem ri_cp0_61 : ri_CP "RoleDesk" (61, 0, 26) := ⟨(ri_tw1 (i := 77) rfl rfl), rfl, ri_mp26⟩
theorem ri_cp0_65 : ri_CP "RoleDesk" (65, 0, 29) := ⟨(ri_tw1 (i := 168) rfl rfl), rfl, ri_mp29⟩
theorem ri_cp0_69 : ri_CP "RoleDesk" (69, 1, 35) := ⟨(ri_tw1 (i := 186) rfl rfl), rfl, ri_mp35⟩
theorem ri_cp0_72 : ri_CP "RoleDesk" (72, 0, 27) := ⟨(ri_tw1 (i := 74) rfl rfl), rfl, ri_mp27⟩
theorem ri_cp0_76 : ri_CP "RoleDesk" (76, 1, 37) := ⟨(ri_tw1 (i := 190) rfl rfl), rfl, ri_mp37⟩
theorem ri_cp0_80 : ri_CP "RoleDesk" (80, 0, 123) := ⟨(ri_tw1 (i := 194) rfl rfl), rfl, ri_mp123⟩
theorem ri_cp0_85 : ri_CP "RoleDesk" (85, 1, 38) := ⟨(ri_tw1 (i := 214) rfl rfl), rfl, ri_mp38⟩
theorem ri_cp0_88 : ri_CP "RoleDesk" (88, 1, 39) := ⟨(ri_tw1 (i := 222) rfl rfl), rfl, ri_mp39⟩
theorem ri_cp0_91 : ri_CP "RoleDesk" (91, 1, 33) := ⟨(ri_tw1 (i := 218) rfl rfl), rfl, ri_mp33⟩
theorem ri_cp0_94 : ri_CP "RoleDesk" (94, 1, 40) := ⟨(ri_tw1 (i := 233) rfl rfl), rfl, ri_mp40⟩
theorem ri_cp0_98 : ri_CP "RoleDesk" (98, 1, 41) := ⟨(ri_tw2 (i := 26) rfl rfl), rfl, ri_mp41⟩
theorem ri_cp0_101 : ri_CP "RoleDesk" (101, 0, 30) := ⟨(ri_tw2 (i := 45) rfl rfl), rfl, ri_mp30⟩
theorem ri_cp0_104 : ri_CP "RoleDesk" (104, 0, 31) := ⟨(ri_tw2 (i := 48) rfl rfl), rfl, ri_mp31⟩
theorem ri_cp0_111 : ri_CP "RoleDesk" (111, 1, 42) := ⟨(ri_tw2 (i := 66) rfl rfl), rfl, ri_mp42⟩
theorem ri_cp0_118 : ri_CP "RoleDesk" (118, 1, 34) := ⟨(ri_tw2 (i := 127) rfl rfl), rfl, ri_mp34⟩
theorem ri_cp0_121 : ri_CP "RoleDesk" (121, 1, 36) := ⟨(ri_tw1 (i := 70) rfl rfl), rfl, ri_mp36⟩
theorem ri_cp0_133 : ri_CP "RoleDesk" (133, 1, 43) := ⟨(ri_tw2 (i := 70) rfl rfl), rfl, ri_mp43⟩
theorem ri_cp0_136 : ri_CP "RoleDesk" (136, 1, 44) := ⟨(ri_tw2 (i := 74) rfl rfl), rfl, ri_mp44⟩
theorem ri_cps0 : ∀ q ∈ ri_cas 0, ri_CP "RoleDesk" q := List.forall_mem_cons.mpr ⟨ri_cp0_3, List.forall_mem_cons.mpr ⟨ri_cp0_34, List.forall_mem_cons.mpr ⟨ri_cp0_40, List.forall_mem_cons.mpr ⟨ri_cp0_54, List.forall_mem_cons.mpr ⟨ri_cp0_57, List.forall_mem_cons.mpr ⟨ri_cp0_61, List.forall_mem_cons.mpr ⟨ri_cp0_65, List.forall_mem_cons.mpr ⟨ri_cp0_69, List.forall_mem_cons.mpr ⟨ri_cp0_72, List.forall_mem_cons.mpr ⟨ri_cp0_76, List.forall_mem_cons.mpr ⟨ri_cp0_80, List.forall_mem_cons.mpr ⟨ri_cp0_85, List.forall_mem_cons.mpr ⟨ri_cp0_88, List.forall_mem_cons.mpr ⟨ri_cp0_91, List.forall_mem_cons.mpr ⟨ri_cp0_94, List.forall_mem_cons.mpr ⟨ri_cp0_98, List.forall_mem_cons.mpr ⟨ri_cp0_101, List.forall_mem_cons.mpr ⟨ri_cp0_104, List.forall_mem_cons.mpr ⟨ri_cp0_111, List.forall_mem_cons.mpr ⟨ri_cp0_118, List.forall_mem_cons.mpr ⟨ri_cp0_121, List.forall_mem_cons.mpr ⟨ri_cp0_133, List.forall_mem_cons.mpr ⟨ri_cp0_136, fun _ h => absurd h List.not_mem_nil⟩⟩⟩⟩⟩⟩⟩⟩⟩⟩⟩⟩⟩⟩⟩⟩⟩⟩⟩⟩⟩⟩⟩
theorem ri_cp1_1 : ri_CP "RoleDeskModel" (1, 5, 0) := (ri_tw2 (i := 178) rfl rfl)
theorem ri_cp1_51 : ri_CP "RoleDeskModel" (51, 1, 56) := ⟨(ri_tw2 (i := 179) rfl rfl), rfl, ri_mp56⟩
theorem ri_cp1_58 : ri_CP "RoleDeskModel" (58, 0, 53) := ⟨(ri_tw3 (i := 90) rfl rfl), rfl, ri_mp53⟩
theorem ri_cp1_62 : ri_CP "RoleDeskModel" (62, 1, 49) := ⟨(ri_tw3 (i := 23) rfl rfl), rfl, ri_mp49⟩
theorem ri_cp1_66 : ri_CP "RoleDeskModel" (66, 1, 57) := ⟨(ri_tw3 (i := 11) rfl rfl), rfl, ri_mp57⟩
theorem ri_cp1_69 : ri_CP "RoleDeskModel" (69, 1, 59) := ⟨(ri_tw3 (i := 43) rfl rfl), rfl, ri_mp59⟩
theorem ri_cp1_73 : ri_CP "RoleDeskModel" (73, 1, 60) := ⟨(ri_tw3 (i := 39) rfl rfl), rfl, ri_mp60⟩
theorem ri_cp1_76 : ri_CP "RoleDeskModel" (76, 1, 47) := ⟨(ri_tw2 (i := 235) rfl rfl), rfl, ri_mp47⟩
theorem ri_cp1_79 : ri_CP "RoleDeskModel" (79, 1, 48) := ⟨(ri_tw3 (i := 3) rfl rfl), rfl, ri_mp48⟩
theorem ri_cp1_82 : ri_CP "RoleDeskModel" (82, 1, 62) := ⟨(ri_tw3 (i := 7) rfl rfl), rfl, ri_mp62⟩
theorem ri_cp1_85 : ri_CP "RoleDeskModel" (85, 1, 66) := ⟨(ri_tw3 (i := 27) rfl rfl), rfl, ri_mp66⟩
theorem ri_cp1_89 : ri_CP "RoleDeskModel" (89, 1, 61) := ⟨(ri_tw3 (i := 35) rfl rfl), rfl, ri_mp61⟩
theorem ri_cp1_93 : ri_CP "RoleDeskModel" (93, 1, 68) := ⟨(ri_tw3 (i := 47) rfl rfl), rfl, ri_mp68⟩
theorem ri_cp1_96 : ri_CP "RoleDeskModel" (96, 0, 52) := ⟨(ri_tw3 (i := 59) rfl rfl), rfl, ri_mp52⟩
theorem ri_cp1_99 : ri_CP "RoleDeskModel" (99, 1, 71) := ⟨(ri_tw3 (i := 62) rfl rfl), rfl, ri_mp71⟩
theorem ri_cp1_102 : ri_CP "RoleDeskModel" (102, 1, 74) := ⟨(ri_tw3 (i := 74) rfl rfl), rfl, ri_mp74⟩
theorem ri_cp1_105 : ri_CP "RoleDeskModel" (105, 1, 54) := ⟨(ri_tw3 (i := 86) rfl rfl), rfl, ri_mp54⟩
theorem ri_cp1_108 : ri_CP "RoleDeskModel" (108, 0, 55) := ⟨(ri_tw3 (i := 93) rfl rfl), rfl, ri_mp55⟩
theorem ri_cp1_111 : ri_CP "RoleDeskModel" (111, 1, 79) := ⟨(ri_tw3 (i := 96) rfl rfl), rfl, ri_mp79⟩
theorem ri_cp1_115 : ri_CP "RoleDeskModel" (115, 1, 78) := ⟨(ri_tw3 (i := 100) rfl rfl), rfl, ri_mp78⟩
theorem ri_cp1_118 : ri_CP "RoleDeskModel" (118, 1, 51) := ⟨(ri_tw3 (i := 108) rfl rfl), rfl, ri_mp51⟩
theorem ri_cp1_121 : ri_CP "RoleDeskModel" (121, 1, 77) := ⟨(ri_tw3 (i := 112) rfl rfl), rfl, ri_mp77⟩
theorem ri_cp1_125 : ri_CP "RoleDeskModel" (125, 1, 84) := ⟨(ri_tw3 (i := 124) rfl rfl), rfl, ri_mp84⟩
theorem ri_cp1_128 : ri_CP "RoleDeskModel" (128, 1, 50) := ⟨(ri_tw3 (i := 132) rfl rfl), rfl, ri_mp50⟩
theorem ri_cp1_131 : ri_CP "RoleDeskModel" (131, 1, 83) := ⟨(ri_tw3 (i := 136) rfl rfl), rfl, ri_mp83⟩
theorem ri_cp1_134 : ri_CP "RoleDeskModel" (134, 1, 87) := ⟨(ri_tw3 (i := 144) rfl rfl), rfl, ri_mp87⟩
theorem ri_cp1_137 : ri_CP "RoleDeskModel" (137, 1, 58) := ⟨(ri_tw3 (i := 156) rfl rfl), rfl, ri_mp58⟩
theorem ri_cps1 : ∀ q ∈ ri_cas 1, ri_CP "RoleDeskModel" q := List.forall_mem_cons.mpr ⟨ri_cp1_1, List.forall_mem_cons.mpr ⟨ri_cp1_51, List.forall_mem_cons.mpr ⟨ri_cp1_58, List.forall_mem_cons.mpr ⟨ri_cp1_62, List.forall_mem_cons.mpr ⟨ri_cp1_66, List.forall_mem_cons.mpr ⟨ri_cp1_69, List.forall_mem_cons.mpr ⟨ri_cp1_73, List.forall_mem_cons.mpr ⟨ri_cp1_76, List.forall_mem_cons.mpr ⟨ri_cp1_79, List.forall_mem_cons.mpr ⟨ri_cp1_82, List.forall_mem_cons.mpr ⟨ri_cp1_85, List.forall_mem_cons.mpr ⟨ri_cp1_89, List.forall_mem_cons.mpr ⟨ri_cp1_93, List.forall_mem_cons.mpr ⟨ri_cp1_96, List.forall_mem_cons.mpr ⟨ri_cp1_99, List.forall_mem_cons.mpr ⟨ri_cp1_102, List.forall_mem_cons.mpr ⟨ri_cp1_105, List.forall_mem_cons.mpr ⟨ri_cp1_108, List.forall_mem_cons.mpr ⟨ri_cp1_111, List.forall_mem_cons.mpr ⟨ri_cp1_115, List.forall_mem_cons.mpr ⟨ri_cp1_118, List.forall_mem_cons.mpr ⟨ri_cp1_121, List.forall_mem_cons.mpr ⟨ri_cp1_125, List.forall_mem_cons.mpr ⟨ri_cp1_128, List.forall_mem_cons.mpr ⟨ri_cp1_131, List.forall_mem_cons.mpr ⟨ri_cp1_134, List.forall_mem_cons.mpr ⟨ri_cp1_137, fun _ h => absurd h List.not_mem_nil⟩⟩⟩⟩⟩⟩⟩⟩⟩⟩⟩⟩⟩⟩⟩⟩⟩⟩⟩⟩⟩⟩⟩⟩⟩⟩⟩
theorem ri_cp2_7 : ri_CP "RoleDeskLaw" (7, 1, 1) := ⟨(ri_tw1 (i := 87) rfl rfl), rfl, ri_mp1⟩
theorem ri_cp2_15 : ri_CP "RoleDeskLaw" (15, 1, 2) := ⟨(ri_tw1 (i := 164) rfl rfl), rfl, ri_mp2⟩
theorem ri_cp2_21 : ri_CP "RoleDeskLaw" (21, 1, 3) := ⟨(ri_tw1 (i := 203) rfl rfl), rfl, ri_mp3⟩
theorem ri_cp2_24 : ri_CP "RoleDeskLaw" (24, 1, 4) := ⟨(ri_tw1 (i := 210) rfl rfl), rfl, ri_mp4⟩
theorem ri_cp2_27 : ri_CP "RoleDeskLaw" (27, 1, 5) := ⟨(ri_tw1 (i := 229) rfl rfl), rfl, ri_mp5⟩
theorem ri_cp2_31 : ri_CP "RoleDeskLaw" (31, 1, 6) := ⟨(ri_tw2 (i := 0) rfl rfl), rfl, ri_mp6⟩
theorem ri_cp2_34 : ri_CP "RoleDeskLaw" (34, 1, 7) := ⟨(ri_tw2 (i := 7) rfl rfl), rfl, ri_mp7⟩
theorem ri_cp2_37 : ri_CP "RoleDeskLaw" (37, 1, 8) := ⟨(ri_tw2 (i := 15) rfl rfl), rfl, ri_mp8⟩
theorem ri_cp2_40 : ri_CP "RoleDeskLaw" (40, 1, 9) := ⟨(ri_tw2 (i := 22) rfl rfl), rfl, ri_mp9⟩
theorem ri_cp2_43 : ri_CP "RoleDeskLaw" (43, 1, 10) := ⟨(ri_tw2 (i := 33) rfl rfl), rfl, ri_mp10⟩
theorem ri_cp2_46 : ri_CP "RoleDeskLaw" (46, 1, 11) := ⟨(ri_tw2 (i := 41) rfl rfl), rfl, ri_mp11⟩
theorem ri_cp2_52 : ri_CP "RoleDeskLaw" (52, 1, 12) := ⟨(ri_tw2 (i := 81) rfl rfl), rfl, ri_mp12⟩
theorem ri_cp2_55 : ri_CP "RoleDeskLaw" (55, 1, 13) := ⟨(ri_tw2 (i := 88) rfl rfl), rfl, ri_mp13⟩
theorem ri_cp2_58 : ri_CP "RoleDeskLaw" (58, 1, 14) := ⟨(ri_tw2 (i := 95) rfl rfl), rfl, ri_mp14⟩
theorem ri_cp2_61 : ri_CP "RoleDeskLaw" (61, 1, 15) := ⟨(ri_tw2 (i := 102) rfl rfl), rfl, ri_mp15⟩
theorem ri_cp2_64 : ri_CP "RoleDeskLaw" (64, 1, 16) := ⟨(ri_tw2 (i := 109) rfl rfl), rfl, ri_mp16⟩
theorem ri_cp2_67 : ri_CP "RoleDeskLaw" (67, 1, 17) := ⟨(ri_tw2 (i := 116) rfl rfl), rfl, ri_mp17⟩
theorem ri_cp2_70 : ri_CP "RoleDeskLaw" (70, 1, 18) := ⟨(ri_tw2 (i := 123) rfl rfl), rfl, ri_mp18⟩
theorem ri_cp2_74 : ri_CP "RoleDeskLaw" (74, 1, 19) := ⟨(ri_tw2 (i := 134) rfl rfl), rfl, ri_mp19⟩
theorem ri_cp2_78 : ri_CP "RoleDeskLaw" (78, 1, 20) := ⟨(ri_tw2 (i := 141) rfl rfl), rfl, ri_mp20⟩
theorem ri_cp2_81 : ri_CP "RoleDeskLaw" (81, 1, 21) := ⟨(ri_tw2 (i := 148) rfl rfl), rfl, ri_mp21⟩
theorem ri_cp2_84 : ri_CP "RoleDeskLaw" (84, 1, 22) := ⟨(ri_tw2 (i := 155) rfl rfl), rfl, ri_mp22⟩
theorem ri_cp2_87 : ri_CP "RoleDeskLaw" (87, 1, 23) := ⟨(ri_tw2 (i := 162) rfl rfl), rfl, ri_mp23⟩
theorem ri_cp2_90 : ri_CP "RoleDeskLaw" (90, 1, 24) := ⟨(ri_tw2 (i := 169) rfl rfl), rfl, ri_mp24⟩
theorem ri_cp2_93 : ri_CP "RoleDeskLaw" (93, 0, 98) := ⟨(ri_tw1 (i := 80) rfl rfl), rfl, ri_mp98⟩
theorem ri_cp2_99 : ri_CP "RoleDeskLaw" (99, 2, 0) := ⟨(ri_tw1 (i := 13) rfl rfl), rfl, ri_mp0⟩
theorem ri_cp2_104 : ri_CP "RoleDeskLaw" (104, 2, 45) := ⟨(ri_tw2 (i := 175) rfl rfl), rfl, ri_mp45⟩
theorem ri_cp2_105 : ri_CP "RoleDeskLaw" (105, 0, 99) := ⟨(ri_tw1 (i := 83) rfl rfl), rfl, ri_mp99⟩
theorem ri_cp2_108 : ri_CP "RoleDeskLaw" (108, 1, 63) := ⟨(ri_tw2 (i := 231) rfl rfl), rfl, ri_mp63⟩
theorem ri_cp2_109 : ri_CP "RoleDeskLaw" (109, 1, 46) := ⟨(ri_tw2 (i := 227) rfl rfl), rfl, ri_mp46⟩
theorem ri_cp2_112 : ri_CP "RoleDeskLaw" (112, 0, 100) := ⟨(ri_tw1 (i := 160) rfl rfl), rfl, ri_mp100⟩
theorem ri_cp2_115 : ri_CP "RoleDeskLaw" (115, 1, 64) := ⟨(ri_tw2 (i := 239) rfl rfl), rfl, ri_mp64⟩
theorem ri_cp2_116 : ri_CP "RoleDeskLaw" (116, 0, 101) := ⟨(ri_tw1 (i := 200) rfl rfl), rfl, ri_mp101⟩
theorem ri_cp2_118 : ri_CP "RoleDeskLaw" (118, 1, 65) := ⟨(ri_tw3 (i := 15) rfl rfl), rfl, ri_mp65⟩
theorem ri_cp2_119 : ri_CP "RoleDeskLaw" (119, 0, 102) := ⟨(ri_tw1 (i := 207) rfl rfl), rfl, ri_mp102⟩
theorem ri_cp2_121 : ri_CP "RoleDeskLaw" (121, 1, 67) := ⟨(ri_tw3 (i := 19) rfl rfl), rfl, ri_mp67⟩
theorem ri_cp2_122 : ri_CP "RoleDeskLaw" (122, 0, 103) := ⟨(ri_tw1 (i := 226) rfl rfl), rfl, ri_mp103⟩
theorem ri_cp2_125 : ri_CP "RoleDeskLaw" (125, 1, 69) := ⟨(ri_tw3 (i := 31) rfl rfl), rfl, ri_mp69⟩
theorem ri_cp2_126 : ri_CP "RoleDeskLaw" (126, 0, 104) := ⟨(ri_tw1 (i := 237) rfl rfl), rfl, ri_mp104⟩
theorem ri_cp2_128 : ri_CP "RoleDeskLaw" (128, 1, 70) := ⟨(ri_tw3 (i := 51) rfl rfl), rfl, ri_mp70⟩
theorem ri_cp2_129 : ri_CP "RoleDeskLaw" (129, 0, 105) := ⟨(ri_tw2 (i := 4) rfl rfl), rfl, ri_mp105⟩
theorem ri_cp2_131 : ri_CP "RoleDeskLaw" (131, 1, 72) := ⟨(ri_tw3 (i := 55) rfl rfl), rfl, ri_mp72⟩
theorem ri_cp2_132 : ri_CP "RoleDeskLaw" (132, 0, 106) := ⟨(ri_tw2 (i := 12) rfl rfl), rfl, ri_mp106⟩
theorem ri_cp2_134 : ri_CP "RoleDeskLaw" (134, 1, 73) := ⟨(ri_tw3 (i := 66) rfl rfl), rfl, ri_mp73⟩
theorem ri_cp2_135 : ri_CP "RoleDeskLaw" (135, 0, 107) := ⟨(ri_tw2 (i := 19) rfl rfl), rfl, ri_mp107⟩
theorem ri_cp2_137 : ri_CP "RoleDeskLaw" (137, 1, 75) := ⟨(ri_tw3 (i := 70) rfl rfl), rfl, ri_mp75⟩
theorem ri_cp2_138 : ri_CP "RoleDeskLaw" (138, 0, 108) := ⟨(ri_tw2 (i := 30) rfl rfl), rfl, ri_mp108⟩
theorem ri_cp2_140 : ri_CP "RoleDeskLaw" (140, 1, 76) := ⟨(ri_tw3 (i := 78) rfl rfl), rfl, ri_mp76⟩
theorem ri_cp2_141 : ri_CP "RoleDeskLaw" (141, 0, 109) := ⟨(ri_tw2 (i := 37) rfl rfl), rfl, ri_mp109⟩
theorem ri_cp2_144 : ri_CP "RoleDeskLaw" (144, 1, 80) := ⟨(ri_tw3 (i := 82) rfl rfl), rfl, ri_mp80⟩
theorem ri_cp2_145 : ri_CP "RoleDeskLaw" (145, 0, 110) := ⟨(ri_tw2 (i := 78) rfl rfl), rfl, ri_mp110⟩
theorem ri_cp2_147 : ri_CP "RoleDeskLaw" (147, 1, 81) := ⟨(ri_tw3 (i := 104) rfl rfl), rfl, ri_mp81⟩
theorem ri_cp2_148 : ri_CP "RoleDeskLaw" (148, 0, 111) := ⟨(ri_tw2 (i := 85) rfl rfl), rfl, ri_mp111⟩
theorem ri_cp2_150 : ri_CP "RoleDeskLaw" (150, 1, 82) := ⟨(ri_tw3 (i := 116) rfl rfl), rfl, ri_mp82⟩
theorem ri_cp2_151 : ri_CP "RoleDeskLaw" (151, 0, 112) := ⟨(ri_tw2 (i := 92) rfl rfl), rfl, ri_mp112⟩
theorem ri_cp2_153 : ri_CP "RoleDeskLaw" (153, 1, 85) := ⟨(ri_tw3 (i := 120) rfl rfl), rfl, ri_mp85⟩
theorem ri_cp2_154 : ri_CP "RoleDeskLaw" (154, 0, 113) := ⟨(ri_tw2 (i := 99) rfl rfl), rfl, ri_mp113⟩
theorem ri_cp2_156 : ri_CP "RoleDeskLaw" (156, 1, 86) := ⟨(ri_tw3 (i := 128) rfl rfl), rfl, ri_mp86⟩
theorem ri_cp2_157 : ri_CP "RoleDeskLaw" (157, 0, 114) := ⟨(ri_tw2 (i := 106) rfl rfl), rfl, ri_mp114⟩
theorem ri_cp2_159 : ri_CP "RoleDeskLaw" (159, 1, 88) := ⟨(ri_tw3 (i := 140) rfl rfl), rfl, ri_mp88⟩
theorem ri_cp2_160 : ri_CP "RoleDeskLaw" (160, 0, 115) := ⟨(ri_tw2 (i := 113) rfl rfl), rfl, ri_mp115⟩
theorem ri_cp2_162 : ri_CP "RoleDeskLaw" (162, 1, 89) := ⟨(ri_tw3 (i := 148) rfl rfl), rfl, ri_mp89⟩
theorem ri_cp2_163 : ri_CP "RoleDeskLaw" (163, 0, 116) := ⟨(ri_tw2 (i := 120) rfl rfl), rfl, ri_mp116⟩
theorem ri_cp2_165 : ri_CP "RoleDeskLaw" (165, 1, 90) := ⟨(ri_tw3 (i := 152) rfl rfl), rfl, ri_mp90⟩
theorem ri_cp2_166 : ri_CP "RoleDeskLaw" (166, 0, 117) := ⟨(ri_tw2 (i := 131) rfl rfl), rfl, ri_mp117⟩
theorem ri_cp2_169 : ri_CP "RoleDeskLaw" (169, 1, 91) := ⟨(ri_tw3 (i := 160) rfl rfl), rfl, ri_mp91⟩
theorem ri_cp2_170 : ri_CP "RoleDeskLaw" (170, 0, 118) := ⟨(ri_tw2 (i := 138) rfl rfl), rfl, ri_mp118⟩
theorem ri_cp2_172 : ri_CP "RoleDeskLaw" (172, 1, 92) := ⟨(ri_tw3 (i := 164) rfl rfl), rfl, ri_mp92⟩
theorem ri_cp2_173 : ri_CP "RoleDeskLaw" (173, 0, 119) := ⟨(ri_tw2 (i := 145) rfl rfl), rfl, ri_mp119⟩
theorem ri_cp2_175 : ri_CP "RoleDeskLaw" (175, 1, 93) := ⟨(ri_tw3 (i := 168) rfl rfl), rfl, ri_mp93⟩
theorem ri_cp2_176 : ri_CP "RoleDeskLaw" (176, 0, 120) := ⟨(ri_tw2 (i := 152) rfl rfl), rfl, ri_mp120⟩
theorem ri_cp2_178 : ri_CP "RoleDeskLaw" (178, 1, 94) := ⟨(ri_tw3 (i := 172) rfl rfl), rfl, ri_mp94⟩
theorem ri_cp2_179 : ri_CP "RoleDeskLaw" (179, 0, 121) := ⟨(ri_tw2 (i := 159) rfl rfl), rfl, ri_mp121⟩
theorem ri_cp2_181 : ri_CP "RoleDeskLaw" (181, 1, 95) := ⟨(ri_tw3 (i := 176) rfl rfl), rfl, ri_mp95⟩
theorem ri_cp2_182 : ri_CP "RoleDeskLaw" (182, 0, 122) := ⟨(ri_tw2 (i := 166) rfl rfl), rfl, ri_mp122⟩
theorem ri_cp2_184 : ri_CP "RoleDeskLaw" (184, 1, 96) := ⟨(ri_tw3 (i := 180) rfl rfl), rfl, ri_mp96⟩
theorem ri_cp2_185 : ri_CP "RoleDeskLaw" (185, 1, 25) := ⟨(ri_tw1 (i := 66) rfl rfl), rfl, ri_mp25⟩
theorem ri_cp2_188 : ri_CP "RoleDeskLaw" (188, 1, 97) := ⟨(ri_tw3 (i := 184) rfl rfl), rfl, ri_mp97⟩
theorem ri_cps2 : ∀ q ∈ ri_cas 2, ri_CP "RoleDeskLaw" q := List.forall_mem_cons.mpr ⟨ri_cp2_7, List.forall_mem_cons.mpr ⟨ri_cp2_15, List.forall_mem_cons.mpr ⟨ri_cp2_21, List.forall_mem_cons.mpr ⟨ri_cp2_24, List.forall_mem_cons.mpr ⟨ri_cp2_27, List.forall_mem_cons.mpr ⟨ri_cp2_31, List.forall_mem_cons.mpr ⟨ri_cp2_34, List.forall_mem_cons.mpr ⟨ri_cp2_37, List.forall_mem_cons.mpr ⟨ri_cp2_40, List.forall_mem_cons.mpr ⟨ri_cp2_43, List.forall_mem_cons.mpr ⟨ri_cp2_46, List.forall_mem_cons.mpr ⟨ri_cp2_52, List.forall_mem_cons.mpr ⟨ri_cp2_55, List.forall_mem_cons.mpr ⟨ri_cp2_58, List.forall_mem_cons.mpr ⟨ri_cp2_61, List.forall_mem_cons.mpr ⟨ri_cp2_64, List.forall_mem_cons.mpr ⟨ri_cp2_67, List.forall_mem_cons.mpr ⟨ri_cp2_70, List.forall_mem_cons.mpr ⟨ri_cp2_74, List.forall_mem_cons.mpr ⟨ri_cp2_78, List.forall_mem_cons.mpr ⟨ri_cp2_81, List.forall_mem_cons.mpr ⟨ri_cp2_84, List.forall_mem_cons.mpr ⟨ri_cp2_87, List.forall_mem_cons.mpr ⟨ri_cp2_90, List.forall_mem_cons.mpr ⟨ri_cp2_93, List.forall_mem_cons.mpr ⟨ri_cp2_99, List.forall_mem_cons.mpr ⟨ri_cp2_104, List.forall_mem_cons.mpr ⟨ri_cp2_105, List.forall_mem_cons.mpr ⟨ri_cp2_108, List.forall_mem_cons.mpr ⟨ri_cp2_109, List.forall_mem_cons.mpr ⟨ri_cp2_112, List.forall_mem_cons.mpr ⟨ri_cp2_115, List.forall_mem_cons.mpr ⟨ri_cp2_116, List.forall_mem_cons.mpr ⟨ri_cp2_118, List.forall_mem_cons.mpr ⟨ri_cp2_119, List.forall_mem_cons.mpr ⟨ri_cp2_121, List.forall_mem_cons.mpr ⟨ri_cp2_122, List.forall_mem_cons.mpr ⟨ri_cp2_125, List.forall_mem_cons.mpr ⟨ri_cp2_126, List.forall_mem_cons.mpr ⟨ri_cp2_128, List.forall_mem_cons.mpr ⟨ri_cp2_129, List.forall_mem_cons.mpr ⟨ri_cp2_131, List.forall_mem_cons.mpr ⟨ri_cp2_132, List.forall_mem_cons.mpr ⟨ri_cp2_134, List.forall_mem_cons.mpr ⟨ri_cp2_135, List.forall_mem_cons.mpr ⟨ri_cp2_137, List.forall_mem_cons.mpr ⟨ri_cp2_138, List.forall_mem_cons.mpr ⟨ri_cp2_140, List.forall_mem_cons.mpr ⟨ri_cp2_141, List.forall_mem_cons.mpr ⟨ri_cp2_144, List.forall_mem_cons.mpr ⟨ri_cp2_145, List.forall_mem_cons.mpr ⟨ri_cp2_147, List.forall_mem_cons.mpr ⟨ri_cp2_148, List.forall_mem_cons.mpr ⟨ri_cp2_150, List.forall_mem_cons.mpr ⟨ri_cp2_151, List.forall_mem_cons.mpr ⟨ri_cp2_153, List.forall_mem_cons.mpr ⟨ri_cp2_154, List.forall_mem_cons.mpr ⟨ri_cp2_156, List.forall_mem_cons.mpr ⟨ri_cp2_157, List.forall_mem_cons.mpr ⟨ri_cp2_159, List.forall_mem_cons.mpr ⟨ri_cp2_160, List.forall_mem_cons.mpr ⟨ri_cp2_162, List.forall_mem_cons.mpr ⟨ri_cp2_163, List.forall_mem_cons.mpr ⟨ri_cp2_165, List.forall_mem_cons.mpr ⟨ri_cp2_166, List.forall_mem_cons.mpr ⟨ri_cp2_169, List.forall_mem_cons.mpr ⟨ri_cp2_170, List.forall_mem_cons.mpr ⟨ri_cp2_172, List.forall_mem_cons.mpr ⟨ri_cp2_173, List.forall_mem_cons.mpr ⟨ri_cp2_175, List.forall_mem_cons.mpr ⟨ri_cp2_176, List.forall_mem_cons.mpr ⟨ri_cp2_178, List.forall_mem_cons.mpr ⟨ri_cp2_179, List.forall_mem_cons.mpr ⟨ri_cp2_181, List.forall_mem_cons.mpr ⟨ri_cp2_182, List.forall_mem_cons.mpr ⟨ri_cp2_184, List.forall_mem_cons.mpr ⟨ri_cp2_185, List.forall_mem_cons.mpr ⟨ri_cp2_188, fun _ h => absurd h List.not_mem_nil⟩⟩⟩⟩⟩⟩⟩⟩⟩⟩⟩⟩⟩⟩⟩⟩⟩⟩⟩⟩⟩⟩⟩⟩⟩⟩⟩⟩⟩⟩⟩⟩⟩⟩⟩⟩⟩⟩⟩⟩⟩⟩⟩⟩⟩⟩⟩⟩⟩⟩⟩⟩⟩⟩⟩⟩⟩⟩⟩⟩⟩⟩⟩⟩⟩⟩⟩⟩⟩⟩⟩⟩⟩⟩⟩⟩⟩⟩
theorem ri_ca_cp {mi x : Nat} {q : Nat × Nat} (h : ri_ca mi x = some q) : ri_CP (ri_nm mi).cls (x, q) := by
  have hm := ri_lk_mem h
  rw [ri_nm_on]
  revert hm
  generalize ri_oc mi = c
  intro hm
  match c, hm with
  | 0, hm => exact ri_cps0 _ hm
  | 1, hm => exact ri_cps1 _ hm
  | 2, hm => exact ri_cps2 _ hm
  | c + 3, hm => cases hm
theorem ri_ca_ok0 {mi x km : Nat} (h : ri_ca mi x = some (0, km)) : Cond.methodLink (ri_nm mi).cls x (ri_nm km) ∈ ri_TW ∧ Cond.static (ri_nm km) ∈ ri_TW ∧ Cond.initialized (ri_nm km).cls ∈ ri_TW ∧ ri_cw km ∧ plainFor (ri_nm km) = true ∧ ((ri_nm km).cls ≠ "java/lang/invoke/MethodHandle" ∧ (ri_nm km).cls ≠ "java/lang/invoke/VarHandle") ∧ (parseMethodDescriptor (ri_nm km).desc).map (fun d => d.parameters.length) = some (ri_ar km) := by
  obtain ⟨h1, h2, h3, h4, h5, h6⟩ : _ ∧ _ ∧ ri_MP km := ri_ca_cp h
  have h2 : ri_kd km = 0 := h2
  rw [h2] at h6
  exact ⟨h1, h6.1, h6.2.1, h3, h4, h5, h6.2.2⟩
theorem ri_ca_ok1 {mi x km : Nat} (h : ri_ca mi x = some (1, km)) : Cond.methodLink (ri_nm mi).cls x (ri_nm km) ∈ ri_TW ∧ Cond.instanceMethod (ri_nm km) ∈ ri_TW ∧ Cond.selects (ri_nm km).cls (ri_nm km) (ri_nm km) ∈ ri_TW ∧ ri_cw km ∧ plainFor (ri_nm km) = true ∧ ((ri_nm km).cls ≠ "java/lang/invoke/MethodHandle" ∧ (ri_nm km).cls ≠ "java/lang/invoke/VarHandle") ∧ (parseMethodDescriptor (ri_nm km).desc).map (fun d => d.parameters.length + 1) = some (ri_ar km) ∧ ∃ ci C T N, ri_kl km = some ci ∧ ri_cls[ci]? = some (C, T, N) ∧ C = (ri_nm km).cls := by
  obtain ⟨h1, h2, h3, h4, h5, h6⟩ : _ ∧ _ ∧ ri_MP km := ri_ca_cp h
  have h2 : ri_kd km = 1 := h2
  rw [h2] at h6
  exact ⟨h1, h6.1, h6.2.1, h3, h4, h5, h6.2.2.1, h6.2.2.2⟩
theorem ri_ca_ok2 {mi x km : Nat} (h : ri_ca mi x = some (2, km)) : Cond.methodLink (ri_nm mi).cls x (ri_nm km) ∈ ri_TW ∧ Cond.instanceMethod (ri_nm km) ∈ ri_TW ∧ Cond.code (ri_nm km) (ri_cc km) (ri_mL km) none ∈ ri_TW ∧ (ri_nm km).name = "<init>" ∧ ri_cw km ∧ plainFor (ri_nm km) = true ∧ ((ri_nm km).cls ≠ "java/lang/invoke/MethodHandle" ∧ (ri_nm km).cls ≠ "java/lang/invoke/VarHandle") ∧ (parseMethodDescriptor (ri_nm km).desc).map (fun d => d.parameters.length + 1) = some (ri_ar km) ∧ ∃ ci C T N, ri_kl km = some ci ∧ ri_cls[ci]? = some (C, T, N) ∧ C = (ri_nm km).cls := by
  obtain ⟨h1, h2, h3, h4, h5, h6⟩ : _ ∧ _ ∧ ri_MP km := ri_ca_cp h
  have h2 : ri_kd km = 2 := h2
  rw [h2] at h6
  exact ⟨h1, h6.1, h6.2.1, h6.2.2.1, h3, h4, h5, h6.2.2.2.1, h6.2.2.2.2⟩
theorem ri_ca_max {mi x z : Nat} (h : ri_ca mi x = some (3, z)) : Cond.methodLink (ri_nm mi).cls x Lib.Math.max.name ∈ ri_TW ∧ Cond.static Lib.Math.max.name ∈ ri_TW ∧ Cond.initialized "java/lang/Math" ∈ ri_TW ∧ Cond.code Lib.Math.max.name Lib.Math.max.code 2 (some .int) ∈ ri_TW :=
  ⟨ri_ca_cp h, (ri_tw1 (i := 23) rfl rfl), (ri_tw1 (i := 2) rfl rfl), (ri_tw1 (i := 24) rfl rfl)⟩
theorem ri_ca_min {mi x z : Nat} (h : ri_ca mi x = some (4, z)) : Cond.methodLink (ri_nm mi).cls x Lib.Math.min.name ∈ ri_TW ∧ Cond.static Lib.Math.min.name ∈ ri_TW ∧ Cond.initialized "java/lang/Math" ∈ ri_TW ∧ Cond.code Lib.Math.min.name Lib.Math.min.code 2 (some .int) ∈ ri_TW :=
  ⟨ri_ca_cp h, (ri_tw1 (i := 20) rfl rfl), (ri_tw1 (i := 2) rfl rfl), (ri_tw1 (i := 21) rfl rfl)⟩
theorem ri_ca_obj {mi x z : Nat} (h : ri_ca mi x = some (5, z)) : Cond.methodLink (ri_nm mi).cls x Lib.objectInit ∈ ri_TW ∧ Cond.instanceMethod Lib.objectInit ∈ ri_TW ∧ Cond.code Lib.objectInit ⟨#[0xb1]⟩ 1 none ∈ ri_TW :=
  ⟨ri_ca_cp h, (ri_tw1 (i := 17) rfl rfl), (ri_tw1 (i := 18) rfl rfl)⟩
theorem ri_ld0 : ∀ q ∈ ri_lds 0, Cond.constant "RoleDesk" q.1 q.2 ∈ ri_TW := List.forall_mem_cons.mpr ⟨(ri_tw2 (i := 11) rfl rfl), fun _ h => absurd h List.not_mem_nil⟩
theorem ri_ld3 : ∀ q ∈ ri_lds 3, Cond.constant "java/lang/Integer" q.1 q.2 ∈ ri_TW := List.forall_mem_cons.mpr ⟨(ri_tw1 (i := 197) rfl rfl), List.forall_mem_cons.mpr ⟨(ri_tw1 (i := 198) rfl rfl), List.forall_mem_cons.mpr ⟨(ri_tw1 (i := 199) rfl rfl), fun _ h => absurd h List.not_mem_nil⟩⟩⟩
theorem ri_ld_ok {mi x : Nat} {v : Int32} (h : ri_ld mi x = some v) : Cond.constant (ri_nm mi).cls x v ∈ ri_TW := by
  have hm := ri_lk_mem h
  rw [ri_nm_on]
  revert hm
  generalize ri_oc mi = c
  intro hm
  match c, hm with
  | 0, hm => exact ri_ld0 _ hm
  | 1, hm => cases hm
  | 2, hm => cases hm
  | 3, hm => exact ri_ld3 _ hm
  | c + 4, hm => cases hm
theorem ri_lay0 : ∀ k, k < 13 → u_lay "RoleDesk" ri_T0 k ∈ ri_TW := by
  intro k hk
  match k, hk with
  | 0, _ => exact (ri_tw1 (i := 38) rfl rfl)
  | 1, _ => exact (ri_tw1 (i := 40) rfl rfl)
  | 2, _ => exact (ri_tw1 (i := 42) rfl rfl)
  | 3, _ => exact (ri_tw1 (i := 44) rfl rfl)
  | 4, _ => exact (ri_tw1 (i := 46) rfl rfl)
  | 5, _ => exact (ri_tw1 (i := 48) rfl rfl)
  | 6, _ => exact (ri_tw1 (i := 50) rfl rfl)
  | 7, _ => exact (ri_tw1 (i := 52) rfl rfl)
  | 8, _ => exact (ri_tw1 (i := 54) rfl rfl)
  | 9, _ => exact (ri_tw1 (i := 56) rfl rfl)
  | 10, _ => exact (ri_tw1 (i := 58) rfl rfl)
  | 11, _ => exact (ri_tw1 (i := 60) rfl rfl)
  | 12, _ => exact (ri_tw1 (i := 62) rfl rfl)
  | k + 13, h => omega
theorem ri_ws0 : ∀ w ∈ u_ws "RoleDesk" ri_T0 13, w ∈ ri_TW := by
  intro w hw
  obtain ⟨k, hk, rfl⟩ := List.mem_map.mp hw
  exact ri_lay0 k (List.mem_range.mp hk)
theorem ri_fty0 : ∀ k, k < 13 → parseFieldDescriptor (ri_T0 k).2.2.1 = some (ri_ft 0 k) := by decide +kernel
theorem ri_fnm0 : ∀ a, a < 13 → ∀ b, b < 13 → a ≠ b → (ri_T0 a).2.1 ≠ (ri_T0 b).2.1 := by decide +kernel
theorem ri_ffi0 : ∀ k, k < 13 → (ri_T0 k).2.2.2 = ri_fin 0 k := by decide +kernel
theorem ri_fcl0 : ∀ k, k < 13 → (ri_T0 k).1 = "RoleDesk" := by decide +kernel
theorem ri_ct0 : (ri_nm (ri_ctor 0)).name = "<init>" ∧ (ri_nm (ri_ctor 0)).cls = "RoleDesk" := ⟨rfl, rfl⟩
theorem ri_fl0 : ∀ q ∈ ri_fls 0, q.2.1 = 0 ∧ q.2.2 < 13 ∧ Cond.fieldLink "RoleDesk" q.1 "RoleDesk" (ri_T0 q.2.2).2.1 (ri_T0 q.2.2).2.2.1 ∈ ri_TW := List.forall_mem_cons.mpr ⟨⟨rfl, by decide, (ri_tw1 (i := 30) rfl rfl)⟩, List.forall_mem_cons.mpr ⟨⟨rfl, by decide, (ri_tw1 (i := 31) rfl rfl)⟩, List.forall_mem_cons.mpr ⟨⟨rfl, by decide, (ri_tw1 (i := 32) rfl rfl)⟩, List.forall_mem_cons.mpr ⟨⟨rfl, by decide, (ri_tw1 (i := 33) rfl rfl)⟩, List.forall_mem_cons.mpr ⟨⟨rfl, by decide, (ri_tw1 (i := 34) rfl rfl)⟩, List.forall_mem_cons.mpr ⟨⟨rfl, by decide, (ri_tw1 (i := 35) rfl rfl)⟩, List.forall_mem_cons.mpr ⟨⟨rfl, by decide, (ri_tw1 (i := 36) rfl rfl)⟩, List.forall_mem_cons.mpr ⟨⟨rfl, by decide, (ri_tw1 (i := 37) rfl rfl)⟩, List.forall_mem_cons.mpr ⟨⟨rfl, by decide, (ri_tw1 (i := 26) rfl rfl)⟩, List.forall_mem_cons.mpr ⟨⟨rfl, by decide, (ri_tw1 (i := 27) rfl rfl)⟩, List.forall_mem_cons.mpr ⟨⟨rfl, by decide, (ri_tw1 (i := 25) rfl rfl)⟩, List.forall_mem_cons.mpr ⟨⟨rfl, by decide, (ri_tw1 (i := 29) rfl rfl)⟩, List.forall_mem_cons.mpr ⟨⟨rfl, by decide, (ri_tw1 (i := 28) rfl rfl)⟩, fun _ h => absurd h List.not_mem_nil⟩⟩⟩⟩⟩⟩⟩⟩⟩⟩⟩⟩⟩
theorem ri_lay1 : ∀ k, k < 14 → u_lay "RoleDeskModel" ri_T1 k ∈ ri_TW := by
  intro k hk
  match k, hk with
  | 0, _ => exact (ri_tw2 (i := 197) rfl rfl)
  | 1, _ => exact (ri_tw2 (i := 199) rfl rfl)
  | 2, _ => exact (ri_tw2 (i := 201) rfl rfl)
  | 3, _ => exact (ri_tw2 (i := 203) rfl rfl)
  | 4, _ => exact (ri_tw2 (i := 205) rfl rfl)
  | 5, _ => exact (ri_tw2 (i := 207) rfl rfl)
  | 6, _ => exact (ri_tw2 (i := 209) rfl rfl)
  | 7, _ => exact (ri_tw2 (i := 211) rfl rfl)
  | 8, _ => exact (ri_tw2 (i := 213) rfl rfl)
  | 9, _ => exact (ri_tw2 (i := 215) rfl rfl)
  | 10, _ => exact (ri_tw2 (i := 217) rfl rfl)
  | 11, _ => exact (ri_tw2 (i := 219) rfl rfl)
  | 12, _ => exact (ri_tw2 (i := 221) rfl rfl)
  | 13, _ => exact (ri_tw2 (i := 223) rfl rfl)
  | k + 14, h => omega
theorem ri_ws1 : ∀ w ∈ u_ws "RoleDeskModel" ri_T1 14, w ∈ ri_TW := by
  intro w hw
  obtain ⟨k, hk, rfl⟩ := List.mem_map.mp hw
  exact ri_lay1 k (List.mem_range.mp hk)
theorem ri_fty1 : ∀ k, k < 14 → parseFieldDescriptor (ri_T1 k).2.2.1 = some (ri_ft 1 k) := by decide +kernel
theorem ri_fnm1 : ∀ a, a < 14 → ∀ b, b < 14 → a ≠ b → (ri_T1 a).2.1 ≠ (ri_T1 b).2.1 := by decide +kernel
theorem ri_ffi1 : ∀ k, k < 14 → (ri_T1 k).2.2.2 = ri_fin 1 k := by decide +kernel
theorem ri_fcl1 : ∀ k, k < 14 → (ri_T1 k).1 = "RoleDeskModel" := by decide +kernel
theorem ri_ct1 : (ri_nm (ri_ctor 1)).name = "<init>" ∧ (ri_nm (ri_ctor 1)).cls = "RoleDeskModel" := ⟨rfl, rfl⟩
theorem ri_fl1 : ∀ q ∈ ri_fls 1, q.2.1 = 1 ∧ q.2.2 < 14 ∧ Cond.fieldLink "RoleDeskModel" q.1 "RoleDeskModel" (ri_T1 q.2.2).2.1 (ri_T1 q.2.2).2.2.1 ∈ ri_TW := List.forall_mem_cons.mpr ⟨⟨rfl, by decide, (ri_tw2 (i := 185) rfl rfl)⟩, List.forall_mem_cons.mpr ⟨⟨rfl, by decide, (ri_tw2 (i := 186) rfl rfl)⟩, List.forall_mem_cons.mpr ⟨⟨rfl, by decide, (ri_tw2 (i := 187) rfl rfl)⟩, List.forall_mem_cons.mpr ⟨⟨rfl, by decide, (ri_tw2 (i := 188) rfl rfl)⟩, List.forall_mem_cons.mpr ⟨⟨rfl, by decide, (ri_tw2 (i := 189) rfl rfl)⟩, List.forall_mem_cons.mpr ⟨⟨rfl, by decide, (ri_tw2 (i := 190) rfl rfl)⟩, List.forall_mem_cons.mpr ⟨⟨rfl, by decide, (ri_tw2 (i := 191) rfl rfl)⟩, List.forall_mem_cons.mpr ⟨⟨rfl, by decide, (ri_tw2 (i := 192) rfl rfl)⟩, List.forall_mem_cons.mpr ⟨⟨rfl, by decide, (ri_tw2 (i := 193) rfl rfl)⟩, List.forall_mem_cons.mpr ⟨⟨rfl, by decide, (ri_tw2 (i := 194) rfl rfl)⟩, List.forall_mem_cons.mpr ⟨⟨rfl, by decide, (ri_tw2 (i := 195) rfl rfl)⟩, List.forall_mem_cons.mpr ⟨⟨rfl, by decide, (ri_tw2 (i := 196) rfl rfl)⟩, List.forall_mem_cons.mpr ⟨⟨rfl, by decide, (ri_tw2 (i := 184) rfl rfl)⟩, List.forall_mem_cons.mpr ⟨⟨rfl, by decide, (ri_tw2 (i := 183) rfl rfl)⟩, fun _ h => absurd h List.not_mem_nil⟩⟩⟩⟩⟩⟩⟩⟩⟩⟩⟩⟩⟩⟩
theorem ri_fl_ok {mi x ci k : Nat} (h : ri_fl mi x = some (ci, k)) : ∃ (C : String) (T : u_T) (N : Nat), ri_cls[ci]? = some (C, T, N) ∧ k < N ∧ (T k).1 = C ∧ Cond.fieldLink (ri_nm mi).cls x C (T k).2.1 (T k).2.2.1 ∈ ri_TW ∧ (∀ w ∈ u_ws C T N, w ∈ ri_TW) ∧
    (∀ j, j < N → parseFieldDescriptor (T j).2.2.1 = some (ri_ft ci j)) ∧ (∀ a, a < N → ∀ b, b < N → a ≠ b → (T a).2.1 ≠ (T b).2.1) ∧ (ri_pk mi ci k = true → (T k).2.2.2 = false ∨ ((T k).2.2.2 = true ∧ (ri_nm mi).name = "<init>" ∧ C = (ri_nm mi).cls)) := by
  have hm := ri_lk_mem h
  have hon := ri_nm_on mi
  have hc : ∀ c, c = ri_oc mi → (x, ci, k) ∈ ri_fls c → c = 0 ∨ c = 1 := by
    intro c _ hm
    match c, hm with
    | 0, _ => exact Or.inl rfl
    | 1, _ => exact Or.inr rfl
    | c + 2, hm => cases hm
  rcases hc _ rfl hm with h0 | h0
  · rw [h0] at hm hon
    obtain ⟨h1, h2, h3⟩ := ri_fl0 _ hm
    have h1 : ci = 0 := h1
    subst h1
    rw [hon]
    refine ⟨"RoleDesk", ri_T0, 13, rfl, h2, ri_fcl0 k h2, h3, ri_ws0, ri_fty0, ri_fnm0, fun hp => ?_⟩
    rw [ri_ffi0 k h2]
    unfold ri_pk at hp
    cases hf : ri_fin 0 k with
    | false => exact Or.inl rfl
    | true =>
      rw [hf] at hp
      simp only [Bool.not_true, Bool.false_or, Bool.and_eq_true] at hp
      have hp := Nat.eq_of_beq_eq_true hp.2.1
      rw [hp]
      exact Or.inr ⟨rfl, ri_ct0.1, rfl⟩
  · rw [h0] at hm hon
    obtain ⟨h1, h2, h3⟩ := ri_fl1 _ hm
    have h1 : ci = 1 := h1
    subst h1
    rw [hon]
    refine ⟨"RoleDeskModel", ri_T1, 14, rfl, h2, ri_fcl1 k h2, h3, ri_ws1, ri_fty1, ri_fnm1, fun hp => ?_⟩
    rw [ri_ffi1 k h2]
    unfold ri_pk at hp
    cases hf : ri_fin 1 k with
    | false => exact Or.inl rfl
    | true =>
      rw [hf] at hp
      simp only [Bool.not_true, Bool.false_or, Bool.and_eq_true] at hp
      have hp := Nat.eq_of_beq_eq_true hp.2.1
      rw [hp]
      exact Or.inr ⟨rfl, ri_ct1.1, rfl⟩
theorem ri_ne_ok {mi x ci : Nat} (h : ri_ne mi x = some ci) : ∃ (C : String) (T : u_T) (N : Nat), ri_cls[ci]? = some (C, T, N) ∧ (∀ w ∈ u_ws C T N, w ∈ ri_TW) ∧ (∀ j, j < N → parseFieldDescriptor (T j).2.2.1 = some (ri_ft ci j)) ∧ Cond.classLink (ri_nm mi).cls x C ∈ ri_TW ∧ Cond.instantiable C N ∈ ri_TW ∧ Cond.initialized C ∈ ri_TW ∧ (ri_df ci).length = N ∧
    (∀ j, j < N → defaultValue (ri_ft ci j) = vp_V (ri_df ci) j) ∧ ((ri_df ci).all fun v => match v with
      | .ref _ => false
      | _ => true) = true := by
  have hm := ri_lk_mem h
  rw [ri_nm_on]
  revert hm
  generalize ri_oc mi = c
  intro hm
  match c, hm with
  | 0, hm => cases hm
  | 1, hm => cases hm
  | 2, hm =>
    rcases List.mem_cons.mp hm with e | hm
    · cases e
      exact ⟨"RoleDesk", ri_T0, 13, rfl, ri_ws0, ri_fty0, (ri_tw1 (i := 11) rfl rfl), (ri_tw1 (i := 12) rfl rfl), (ri_tw1 (i := 1) rfl rfl), rfl, by decide +kernel, rfl⟩
    · rcases List.mem_cons.mp hm with e | hm
      · cases e
        exact ⟨"RoleDeskModel", ri_T1, 14, rfl, ri_ws1, ri_fty1, (ri_tw2 (i := 173) rfl rfl), (ri_tw2 (i := 174) rfl rfl), (ri_tw1 (i := 3) rfl rfl), rfl, by decide +kernel, rfl⟩
      · cases hm
  | c + 3, hm => cases hm
theorem ri_arr_int : Cond.arrayClass (newarray.typeOf .int) ∈ ri_TW := (ri_tw1 (i := 65) rfl rfl)
theorem ri_arr_long : Cond.arrayClass (newarray.typeOf .long) ∈ ri_TW := (ri_tw3 (i := 188) rfl rfl)
theorem ri_arr_bool : Cond.arrayClass (newarray.typeOf .boolean) ∈ ri_TW := (ri_tw2 (i := 226) rfl rfl)
theorem ri_inst0 : Cond.instantiable "RoleDesk" 13 ∈ ri_TW := (ri_tw1 (i := 12) rfl rfl)
theorem ri_inst1 : Cond.instantiable "RoleDeskModel" 14 ∈ ri_TW := (ri_tw2 (i := 174) rfl rfl)
theorem ri_iniT : Cond.initialized Bundle.tN ∈ tables_1 := List.mem_append_left _ (List.mem_of_getElem? (i := 4) rfl)
theorem ri_lsU : Cond.laysStatic Bundle.tN "UNASSIGNED_STACK" Bundle.steD ∈ tables_1 := List.mem_append_left _ (List.mem_of_getElem? (i := 124) rfl)
theorem ri_lsS : Cond.laysStatic Bundle.tN "SUPPRESSED_SENTINEL" Bundle.listD ∈ tables_1 := List.mem_append_left _ (List.mem_of_getElem? (i := 126) rfl)
theorem ri_et_ok {mi ct a b h : Nat} (hm : (a, b, h, ct) ∈ ri_et mi) : ct ≠ 0 ∧ Cond.classLink (ri_nm mi).cls ct (ri_xn (ri_ct ct)) ∈ ri_TW ∧ ri_exk (ri_ct ct) = true := by
  have h0 : (ri_ms.all fun r => r.2.2.2.2.2.1.all fun q => Nat.beq r.1 2 && (Nat.beq q.2.2.2 13 || Nat.beq q.2.2.2 19 || Nat.beq q.2.2.2 50)) = true := by decide +kernel
  have h1 : ∀ q ∈ ri_et mi, (Nat.beq (ri_oc mi) 2 && (Nat.beq q.2.2.2 13 || Nat.beq q.2.2.2 19 || Nat.beq q.2.2.2 50)) = true := ri_all (Q := fun r => ∀ q ∈ r.2.2.2.2.2.1, (Nat.beq r.1 2 && (Nat.beq q.2.2.2 13 || Nat.beq q.2.2.2 19 || Nat.beq q.2.2.2 50)) = true) (fun r hr q hq => List.all_eq_true.mp (List.all_eq_true.mp h0 r hr) q hq) (fun q hq => by cases hq) mi
  have h2 := h1 _ hm
  simp only [Bool.and_eq_true, Bool.or_eq_true] at h2
  have h3 := Nat.eq_of_beq_eq_true h2.1
  rw [ri_nm_on, h3]
  have h4 : ct = 13 ∨ ct = 19 ∨ ct = 50 := by
    rcases h2.2 with (q | q) | q
    · exact Or.inl (Nat.eq_of_beq_eq_true q)
    · exact Or.inr (Or.inl (Nat.eq_of_beq_eq_true q))
    · exact Or.inr (Or.inr (Nat.eq_of_beq_eq_true q))
  rcases h4 with rfl | rfl | rfl
  · exact ⟨by decide, (ri_tw1 (i := 86) rfl rfl), rfl⟩
  · exact ⟨by decide, (ri_tw1 (i := 163) rfl rfl), rfl⟩
  · exact ⟨by decide, (ri_tw2 (i := 40) rfl rfl), rfl⟩
theorem ri_cast {ex : Nat} (h : ri_exk ex = true) : Cond.castable (ri_xn ex) (ri_xn ex) ∈ ri_TW := by
  have h := Nat.le_of_ble_eq_true h
  match ex, h with
  | 0, _ => exact (ri_tw1 (i := 173) rfl rfl)
  | 1, _ => exact (ri_tw2 (i := 53) rfl rfl)
  | 2, _ => exact (ri_tw1 (i := 99) rfl rfl)
  | ex + 3, h => omega
