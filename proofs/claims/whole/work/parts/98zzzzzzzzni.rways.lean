/-! WAYS of the reference's machine: every call is a hypothesis -/
theorem dc_387_0 : decode (sm_cc 387) 0 = .ok (.iload_n 2, 1) := by decide +kernel
theorem dc_387_1 : decode (sm_cc 387) 1 = .ok (.ifCond .ne (74), 3) := by decide +kernel
theorem dc_387_4 : decode (sm_cc 387) 4 = .ok (.aload_n 1, 1) := by decide +kernel
theorem dc_387_5 : decode (sm_cc 387) 5 = .ok (.getfield 531, 3) := by decide +kernel
theorem fr_387_531 : sm_at mt_f (sm_ow 387) 531 = some (531, 13, 0, 0, 2770) := by decide +kernel
theorem dc_387_8 : decode (sm_cc 387) 8 = .ok (.iconst 1, 1) := by decide +kernel
theorem dc_387_9 : decode (sm_cc 387) 9 = .ok (.if_icmp .ne (66), 3) := by decide +kernel
theorem dc_387_75 : decode (sm_cc 387) 75 = .ok (.iload_n 2, 1) := by decide +kernel
theorem dc_387_76 : decode (sm_cc 387) 76 = .ok (.ifCond .ne (104), 3) := by decide +kernel
theorem dc_387_79 : decode (sm_cc 387) 79 = .ok (.aload_n 1, 1) := by decide +kernel
theorem dc_387_80 : decode (sm_cc 387) 80 = .ok (.getfield 531, 3) := by decide +kernel
theorem dc_387_83 : decode (sm_cc 387) 83 = .ok (.iconst 2, 1) := by decide +kernel
theorem dc_387_84 : decode (sm_cc 387) 84 = .ok (.if_icmp .ne (96), 3) := by decide +kernel
theorem dc_387_180 : decode (sm_cc 387) 180 = .ok (.aload_n 0, 1) := by decide +kernel
theorem dc_387_181 : decode (sm_cc 387) 181 = .ok (.aload_n 1, 1) := by decide +kernel
theorem dc_387_182 : decode (sm_cc 387) 182 = .ok (.getfield 531, 3) := by decide +kernel
theorem dc_387_185 : decode (sm_cc 387) 185 = .ok (.iconst 1, 1) := by decide +kernel
theorem dc_387_186 : decode (sm_cc 387) 186 = .ok (.if_icmp .ne (9), 3) := by decide +kernel
theorem dc_387_195 : decode (sm_cc 387) 195 = .ok (.aload_n 1, 1) := by decide +kernel
theorem dc_387_196 : decode (sm_cc 387) 196 = .ok (.getfield 531, 3) := by decide +kernel
theorem dc_387_199 : decode (sm_cc 387) 199 = .ok (.iconst 2, 1) := by decide +kernel
theorem dc_387_200 : decode (sm_cc 387) 200 = .ok (.if_icmp .ne (9), 3) := by decide +kernel
theorem dc_387_209 : decode (sm_cc 387) 209 = .ok (.aload_n 1, 1) := by decide +kernel
theorem dc_387_210 : decode (sm_cc 387) 210 = .ok (.getfield 531, 3) := by decide +kernel
theorem dc_387_213 : decode (sm_cc 387) 213 = .ok (.iconst 3, 1) := by decide +kernel
theorem dc_387_214 : decode (sm_cc 387) 214 = .ok (.if_icmp .ne (9), 3) := by decide +kernel
theorem dc_387_223 : decode (sm_cc 387) 223 = .ok (.aload_n 1, 1) := by decide +kernel
theorem dc_387_224 : decode (sm_cc 387) 224 = .ok (.getfield 531, 3) := by decide +kernel
theorem dc_387_227 : decode (sm_cc 387) 227 = .ok (.iconst 4, 1) := by decide +kernel
theorem dc_387_228 : decode (sm_cc 387) 228 = .ok (.if_icmp .ne (9), 3) := by decide +kernel
theorem dc_387_237 : decode (sm_cc 387) 237 = .ok (.aload_n 1, 1) := by decide +kernel
theorem dc_387_238 : decode (sm_cc 387) 238 = .ok (.getfield 531, 3) := by decide +kernel
theorem dc_387_241 : decode (sm_cc 387) 241 = .ok (.iconst 5, 1) := by decide +kernel
theorem dc_387_242 : decode (sm_cc 387) 242 = .ok (.if_icmp .ne (9), 3) := by decide +kernel
theorem dc_387_251 : decode (sm_cc 387) 251 = .ok (.ldc_w 846, 3) := by decide +kernel
theorem cs_387_846 : sm_at mt_ci (sm_ow 387) 846 = none ∧ sm_at mt_cs (sm_ow 387) 846 = some (846, 50, 2878) := by decide +kernel
theorem dc_387_254 : decode (sm_cc 387) 254 = .ok (.invokevirtual 821, 3) := by decide +kernel
theorem kr_387_821 : sm_at mt_k (sm_ow 387) 821 = some (821, 0, 384, 0, 2856) := by decide +kernel
theorem dc_387_257 : decode (sm_cc 387) 257 = .ok (.iload_n 2, 1) := by decide +kernel
theorem dc_387_258 : decode (sm_cc 387) 258 = .ok (.ifCond .ne (82), 3) := by decide +kernel
theorem dc_387_261 : decode (sm_cc 387) 261 = .ok (.aload_n 0, 1) := by decide +kernel
theorem dc_387_262 : decode (sm_cc 387) 262 = .ok (.bipush (32), 2) := by decide +kernel
theorem dc_387_264 : decode (sm_cc 387) 264 = .ok (.invokevirtual 818, 3) := by decide +kernel
theorem dc_387_267 : decode (sm_cc 387) 267 = .ok (.aload_n 1, 1) := by decide +kernel
theorem dc_387_268 : decode (sm_cc 387) 268 = .ok (.getfield 531, 3) := by decide +kernel
theorem dc_387_271 : decode (sm_cc 387) 271 = .ok (.iconst 5, 1) := by decide +kernel
theorem dc_387_272 : decode (sm_cc 387) 272 = .ok (.if_icmp .eq (12), 3) := by decide +kernel
theorem dc_387_284 : decode (sm_cc 387) 284 = .ok (.aload_n 0, 1) := by decide +kernel
theorem dc_387_285 : decode (sm_cc 387) 285 = .ok (.getfield 485, 3) := by decide +kernel
theorem fr_387_485 : sm_at mt_f (sm_ow 387) 485 = some (485, 14, 42, 0, 2115) := by decide +kernel
theorem dc_387_288 : decode (sm_cc 387) 288 = .ok (.aload_n 1, 1) := by decide +kernel
theorem dc_387_289 : decode (sm_cc 387) 289 = .ok (.getfield 472, 3) := by decide +kernel
theorem fr_387_472 : sm_at mt_f (sm_ow 387) 472 = some (472, 13, 11, 0, 2788) := by decide +kernel
theorem dc_387_292 : decode (sm_cc 387) 292 = .ok (.aaload, 1) := by decide +kernel
theorem dc_387_293 : decode (sm_cc 387) 293 = .ok (.getfield 694, 3) := by decide +kernel
theorem fr_387_694 : sm_at mt_f (sm_ow 387) 694 = some (694, 13, 10, 0, 2787) := by decide +kernel
theorem dc_387_296 : decode (sm_cc 387) 296 = .ok (.goto (7), 3) := by decide +kernel
theorem dc_387_303 : decode (sm_cc 387) 303 = .ok (.istore_n 3, 1) := by decide +kernel
theorem dc_387_304 : decode (sm_cc 387) 304 = .ok (.iconst 0, 1) := by decide +kernel
theorem dc_387_305 : decode (sm_cc 387) 305 = .ok (.istore 4, 2) := by decide +kernel
theorem dc_387_275 : decode (sm_cc 387) 275 = .ok (.aload_n 1, 1) := by decide +kernel
theorem dc_387_276 : decode (sm_cc 387) 276 = .ok (.getfield 531, 3) := by decide +kernel
theorem dc_387_279 : decode (sm_cc 387) 279 = .ok (.bipush (6), 2) := by decide +kernel
theorem dc_387_281 : decode (sm_cc 387) 281 = .ok (.if_icmp .ne (18), 3) := by decide +kernel
theorem dc_387_299 : decode (sm_cc 387) 299 = .ok (.aload_n 1, 1) := by decide +kernel
theorem dc_387_300 : decode (sm_cc 387) 300 = .ok (.getfield 694, 3) := by decide +kernel
theorem dc_387_245 : decode (sm_cc 387) 245 = .ok (.ldc_w 844, 3) := by decide +kernel
theorem cs_387_844 : sm_at mt_ci (sm_ow 387) 844 = none ∧ sm_at mt_cs (sm_ow 387) 844 = some (844, 49, 2877) := by decide +kernel
theorem dc_387_248 : decode (sm_cc 387) 248 = .ok (.goto (6), 3) := by decide +kernel
theorem dc_387_231 : decode (sm_cc 387) 231 = .ok (.ldc_w 842, 3) := by decide +kernel
theorem cs_387_842 : sm_at mt_ci (sm_ow 387) 842 = none ∧ sm_at mt_cs (sm_ow 387) 842 = some (842, 48, 2876) := by decide +kernel
theorem dc_387_234 : decode (sm_cc 387) 234 = .ok (.goto (20), 3) := by decide +kernel
theorem dc_387_217 : decode (sm_cc 387) 217 = .ok (.ldc_w 840, 3) := by decide +kernel
theorem cs_387_840 : sm_at mt_ci (sm_ow 387) 840 = none ∧ sm_at mt_cs (sm_ow 387) 840 = some (840, 47, 2875) := by decide +kernel
theorem dc_387_220 : decode (sm_cc 387) 220 = .ok (.goto (34), 3) := by decide +kernel
theorem dc_387_87 : decode (sm_cc 387) 87 = .ok (.aload_n 0, 1) := by decide +kernel
theorem dc_387_88 : decode (sm_cc 387) 88 = .ok (.bipush (123), 2) := by decide +kernel
theorem dc_387_90 : decode (sm_cc 387) 90 = .ok (.invokevirtual 818, 3) := by decide +kernel
theorem dc_387_93 : decode (sm_cc 387) 93 = .ok (.iconst 0, 1) := by decide +kernel
theorem dc_387_94 : decode (sm_cc 387) 94 = .ok (.istore_n 3, 1) := by decide +kernel
theorem dc_387_12 : decode (sm_cc 387) 12 = .ok (.aload_n 0, 1) := by decide +kernel
theorem dc_387_13 : decode (sm_cc 387) 13 = .ok (.bipush (91), 2) := by decide +kernel
theorem dc_387_15 : decode (sm_cc 387) 15 = .ok (.invokevirtual 818, 3) := by decide +kernel
theorem dc_387_18 : decode (sm_cc 387) 18 = .ok (.iconst 0, 1) := by decide +kernel
theorem dc_387_19 : decode (sm_cc 387) 19 = .ok (.istore_n 3, 1) := by decide +kernel
theorem dc_387_203 : decode (sm_cc 387) 203 = .ok (.ldc_w 838, 3) := by decide +kernel
theorem cs_387_838 : sm_at mt_ci (sm_ow 387) 838 = none ∧ sm_at mt_cs (sm_ow 387) 838 = some (838, 46, 2874) := by decide +kernel
theorem dc_387_206 : decode (sm_cc 387) 206 = .ok (.goto (48), 3) := by decide +kernel
theorem dc_387_189 : decode (sm_cc 387) 189 = .ok (.ldc_w 836, 3) := by decide +kernel
theorem cs_387_836 : sm_at mt_ci (sm_ow 387) 836 = none ∧ sm_at mt_cs (sm_ow 387) 836 = some (836, 45, 2873) := by decide +kernel
theorem dc_387_192 : decode (sm_cc 387) 192 = .ok (.goto (62), 3) := by decide +kernel
theorem dc_387_20 : decode (sm_cc 387) 20 = .ok (.iload_n 3, 1) := by decide +kernel
theorem dc_387_21 : decode (sm_cc 387) 21 = .ok (.aload_n 1, 1) := by decide +kernel
theorem dc_387_22 : decode (sm_cc 387) 22 = .ok (.getfield 459, 3) := by decide +kernel
theorem fr_387_459 : sm_at mt_f (sm_ow 387) 459 = some (459, 13, 1, 0, 2772) := by decide +kernel
theorem dc_387_25 : decode (sm_cc 387) 25 = .ok (.if_icmp .ge (43), 3) := by decide +kernel
theorem dc_387_68 : decode (sm_cc 387) 68 = .ok (.aload_n 0, 1) := by decide +kernel
theorem dc_387_69 : decode (sm_cc 387) 69 = .ok (.bipush (93), 2) := by decide +kernel
theorem dc_387_71 : decode (sm_cc 387) 71 = .ok (.invokevirtual 818, 3) := by decide +kernel
theorem dc_387_74 : decode (sm_cc 387) 74 = .ok (.return_, 1) := by decide +kernel
theorem dc_387_28 : decode (sm_cc 387) 28 = .ok (.iload_n 3, 1) := by decide +kernel
theorem dc_387_29 : decode (sm_cc 387) 29 = .ok (.ifCond .le (10), 3) := by decide +kernel
theorem dc_387_39 : decode (sm_cc 387) 39 = .ok (.aload_n 0, 1) := by decide +kernel
theorem dc_387_40 : decode (sm_cc 387) 40 = .ok (.aload_n 1, 1) := by decide +kernel
theorem dc_387_41 : decode (sm_cc 387) 41 = .ok (.getfield 462, 3) := by decide +kernel
theorem fr_387_462 : sm_at mt_f (sm_ow 387) 462 = some (462, 13, 2, 0, 2774) := by decide +kernel
theorem dc_387_44 : decode (sm_cc 387) 44 = .ok (.iload_n 3, 1) := by decide +kernel
theorem dc_387_45 : decode (sm_cc 387) 45 = .ok (.iaload, 1) := by decide +kernel
theorem dc_387_46 : decode (sm_cc 387) 46 = .ok (.aload_n 1, 1) := by decide +kernel
theorem dc_387_47 : decode (sm_cc 387) 47 = .ok (.getfield 465, 3) := by decide +kernel
theorem fr_387_465 : sm_at mt_f (sm_ow 387) 465 = some (465, 13, 4, 0, 2778) := by decide +kernel
theorem dc_387_50 : decode (sm_cc 387) 50 = .ok (.iload_n 3, 1) := by decide +kernel
theorem dc_387_51 : decode (sm_cc 387) 51 = .ok (.laload, 1) := by decide +kernel
theorem dc_387_52 : decode (sm_cc 387) 52 = .ok (.aload_n 1, 1) := by decide +kernel
theorem dc_387_53 : decode (sm_cc 387) 53 = .ok (.getfield 627, 3) := by decide +kernel
theorem fr_387_627 : sm_at mt_f (sm_ow 387) 627 = some (627, 13, 5, 0, 2780) := by decide +kernel
theorem dc_387_56 : decode (sm_cc 387) 56 = .ok (.iload_n 3, 1) := by decide +kernel
theorem dc_387_57 : decode (sm_cc 387) 57 = .ok (.laload, 1) := by decide +kernel
theorem dc_387_58 : decode (sm_cc 387) 58 = .ok (.iconst 1, 1) := by decide +kernel
theorem dc_387_59 : decode (sm_cc 387) 59 = .ok (.invokevirtual 831, 3) := by decide +kernel
theorem kr_387_831 : sm_at mt_k (sm_ow 387) 831 = some (831, 0, 383, 0, 2852) := by decide +kernel
theorem dc_387_62 : decode (sm_cc 387) 62 = .ok (.iinc 3 (1), 3) := by decide +kernel
theorem dc_387_65 : decode (sm_cc 387) 65 = .ok (.goto (-45), 3) := by decide +kernel
theorem dc_387_32 : decode (sm_cc 387) 32 = .ok (.aload_n 0, 1) := by decide +kernel
theorem dc_387_33 : decode (sm_cc 387) 33 = .ok (.ldc_w 829, 3) := by decide +kernel
theorem cs_387_829 : sm_at mt_ci (sm_ow 387) 829 = none ∧ sm_at mt_cs (sm_ow 387) 829 = some (829, 4, 2871) := by decide +kernel
theorem dc_387_36 : decode (sm_cc 387) 36 = .ok (.invokevirtual 821, 3) := by decide +kernel
theorem dc_387_95 : decode (sm_cc 387) 95 = .ok (.iload_n 3, 1) := by decide +kernel
theorem dc_387_96 : decode (sm_cc 387) 96 = .ok (.aload_n 1, 1) := by decide +kernel
theorem dc_387_97 : decode (sm_cc 387) 97 = .ok (.getfield 459, 3) := by decide +kernel
theorem dc_387_100 : decode (sm_cc 387) 100 = .ok (.if_icmp .ge (73), 3) := by decide +kernel
theorem dc_387_173 : decode (sm_cc 387) 173 = .ok (.aload_n 0, 1) := by decide +kernel
theorem dc_387_174 : decode (sm_cc 387) 174 = .ok (.bipush (125), 2) := by decide +kernel
theorem dc_387_176 : decode (sm_cc 387) 176 = .ok (.invokevirtual 818, 3) := by decide +kernel
theorem dc_387_179 : decode (sm_cc 387) 179 = .ok (.return_, 1) := by decide +kernel
theorem dc_387_103 : decode (sm_cc 387) 103 = .ok (.iload_n 3, 1) := by decide +kernel
theorem dc_387_104 : decode (sm_cc 387) 104 = .ok (.ifCond .le (10), 3) := by decide +kernel
theorem dc_387_114 : decode (sm_cc 387) 114 = .ok (.aload_n 0, 1) := by decide +kernel
theorem dc_387_115 : decode (sm_cc 387) 115 = .ok (.aload_n 1, 1) := by decide +kernel
theorem dc_387_116 : decode (sm_cc 387) 116 = .ok (.getfield 719, 3) := by decide +kernel
theorem fr_387_719 : sm_at mt_f (sm_ow 387) 719 = some (719, 13, 3, 0, 2776) := by decide +kernel
theorem dc_387_119 : decode (sm_cc 387) 119 = .ok (.iload_n 3, 1) := by decide +kernel
theorem dc_387_120 : decode (sm_cc 387) 120 = .ok (.iaload, 1) := by decide +kernel
theorem dc_387_121 : decode (sm_cc 387) 121 = .ok (.aload_n 1, 1) := by decide +kernel
theorem dc_387_122 : decode (sm_cc 387) 122 = .ok (.getfield 722, 3) := by decide +kernel
theorem fr_387_722 : sm_at mt_f (sm_ow 387) 722 = some (722, 13, 6, 0, 2782) := by decide +kernel
theorem dc_387_125 : decode (sm_cc 387) 125 = .ok (.iload_n 3, 1) := by decide +kernel
theorem dc_387_126 : decode (sm_cc 387) 126 = .ok (.laload, 1) := by decide +kernel
theorem dc_387_127 : decode (sm_cc 387) 127 = .ok (.aload_n 1, 1) := by decide +kernel
theorem dc_387_128 : decode (sm_cc 387) 128 = .ok (.getfield 725, 3) := by decide +kernel
theorem fr_387_725 : sm_at mt_f (sm_ow 387) 725 = some (725, 13, 7, 0, 2784) := by decide +kernel
theorem dc_387_131 : decode (sm_cc 387) 131 = .ok (.iload_n 3, 1) := by decide +kernel
theorem dc_387_132 : decode (sm_cc 387) 132 = .ok (.laload, 1) := by decide +kernel
theorem dc_387_133 : decode (sm_cc 387) 133 = .ok (.iconst 1, 1) := by decide +kernel
theorem dc_387_134 : decode (sm_cc 387) 134 = .ok (.invokevirtual 831, 3) := by decide +kernel
theorem dc_387_137 : decode (sm_cc 387) 137 = .ok (.aload_n 0, 1) := by decide +kernel
theorem dc_387_138 : decode (sm_cc 387) 138 = .ok (.ldc_w 834, 3) := by decide +kernel
theorem cs_387_834 : sm_at mt_ci (sm_ow 387) 834 = none ∧ sm_at mt_cs (sm_ow 387) 834 = some (834, 12, 2872) := by decide +kernel
theorem dc_387_141 : decode (sm_cc 387) 141 = .ok (.invokevirtual 821, 3) := by decide +kernel
theorem dc_387_144 : decode (sm_cc 387) 144 = .ok (.aload_n 0, 1) := by decide +kernel
theorem dc_387_145 : decode (sm_cc 387) 145 = .ok (.aload_n 1, 1) := by decide +kernel
theorem dc_387_146 : decode (sm_cc 387) 146 = .ok (.getfield 462, 3) := by decide +kernel
theorem dc_387_149 : decode (sm_cc 387) 149 = .ok (.iload_n 3, 1) := by decide +kernel
theorem dc_387_150 : decode (sm_cc 387) 150 = .ok (.iaload, 1) := by decide +kernel
theorem dc_387_151 : decode (sm_cc 387) 151 = .ok (.aload_n 1, 1) := by decide +kernel
theorem dc_387_152 : decode (sm_cc 387) 152 = .ok (.getfield 465, 3) := by decide +kernel
theorem dc_387_155 : decode (sm_cc 387) 155 = .ok (.iload_n 3, 1) := by decide +kernel
theorem dc_387_156 : decode (sm_cc 387) 156 = .ok (.laload, 1) := by decide +kernel
theorem dc_387_157 : decode (sm_cc 387) 157 = .ok (.aload_n 1, 1) := by decide +kernel
theorem dc_387_158 : decode (sm_cc 387) 158 = .ok (.getfield 627, 3) := by decide +kernel
theorem dc_387_161 : decode (sm_cc 387) 161 = .ok (.iload_n 3, 1) := by decide +kernel
theorem dc_387_162 : decode (sm_cc 387) 162 = .ok (.laload, 1) := by decide +kernel
theorem dc_387_163 : decode (sm_cc 387) 163 = .ok (.iconst 1, 1) := by decide +kernel
theorem dc_387_164 : decode (sm_cc 387) 164 = .ok (.invokevirtual 831, 3) := by decide +kernel
theorem dc_387_167 : decode (sm_cc 387) 167 = .ok (.iinc 3 (1), 3) := by decide +kernel
theorem dc_387_170 : decode (sm_cc 387) 170 = .ok (.goto (-75), 3) := by decide +kernel
theorem dc_387_107 : decode (sm_cc 387) 107 = .ok (.aload_n 0, 1) := by decide +kernel
theorem dc_387_108 : decode (sm_cc 387) 108 = .ok (.ldc_w 829, 3) := by decide +kernel
theorem dc_387_111 : decode (sm_cc 387) 111 = .ok (.invokevirtual 821, 3) := by decide +kernel
theorem Bod.ldcW {d j pc q k1 t w : Nat} {lv : sm_L} {st : List Value} {S Sf : cS} {v : Option Value} (hd : decode (sm_cc j) pc = .ok (.ldc_w q, 3)) (hk : sm_at mt_ci (sm_ow j) q = none ∧ sm_at mt_cs (sm_ow j) q = some (k1, t, w)) (h : Bod d j (pc + 3) lv (.retAddr (2 * t) :: st) S v Sf) : Bod d j pc lv st S v Sf := Bod.of (fun _ _ => sx_go hd (sd_rd (by rcases st with _ | ⟨a, _ | ⟨b, st⟩⟩ <;> rfl) (by rcases st with _ | ⟨a, st⟩ <;> rfl) (by rcases st with _ | ⟨a, _ | ⟨b, st⟩⟩ <;> rfl) (by
  unfold sm_rd
  rcases st with _ | ⟨a, _ | ⟨b, st⟩⟩ <;> simp only [hk.1, hk.2]))) h
theorem rSt0_1 {d : Nat} {S Sf : cS} {v : Option Value} {g : Nat} {zg : Nat} {fd0 : Nat} {S1 : cS} {S2 : cS} {fd01 : Nat} {fd11 : Nat} {g : Nat} {zg : Nat} {fd10 : Nat} (ag : 108 ≤ g) (hz1 : (sS S)[g - 108]? = some (13, zg)) (hfd0 : sI S (100 * g + 0) = nI fd0) (mfd0 : fd0 < 2 ^ 20) (b1 : fd0 ≠ 1) (b2 : fd0 ≠ 2) (b3 : fd0 ≠ 3) (b4 : fd0 ≠ 4) (b5 : fd0 ≠ 5) (c1 : Ans (d + 8) 384 [.ref 61, .retAddr (2 * 50)] S none S1) (c2 : Ans (d + 8) 382 [.ref 61, .int (nI 32)] S1 none S2) (hz2 : (sS S2)[g - 108]? = some (13, zg)) (hfd01 : sI S2 (100 * g + 0) = nI fd01) (mfd01 : fd01 < 2 ^ 20) (b6 : fd01 = 5) (hfd11 : sI S2 (100 * g + 11) = nI fd11) (mfd11 : fd11 < 2 ^ 20) (b7 : fd11 < 1500) (ag : 108 ≤ g) (hq4 : sQ S2 86 fd11 = some g) (hfd10 : sI S2 (100 * g + 10) = nI fd10) (mfd10 : fd10 < 2 ^ 20) (hB : ∀ lv1 : sm_L, sm_get lv1 0 = some (.ref 61) → sm_get lv1 3 = some (.int (nI fd10)) → sm_get lv1 4 = some (.int (nI 0)) → Bod (d + 8) 387 307 lv1 [] (S2) v Sf) : Bod (d + 8) 387 0 [(0, .ref 61), (1, .ref g), (2, .int (nI 0))] [] S v Sf := by
  refine Bod.go dc_387_0 rfl ?_
  refine Bod.ifF dc_387_1 rfl (k1_ne_F (k_eq 0 0 rfl rfl (by omega))) ?_
  refine Bod.go dc_387_4 rfl ?_
  refine Bod.get dc_387_5 fr_387_531 (mk_thing ag (by first | exact hz1 | (simp only [rIS, rJS, rAS, rLS, rVS, rQS, rS_hold]; exact hz1))) rfl ?_
  refine Bod.eqI (nI fd0) (by first | assumption | rfl | exact congrArg nI (by omega) | (simp (disch := omega) only [rIn, rIe, rA, rIA, rLA, rJA, rVI, rQI, rVA, rQA, upd_at,  rAI, rLI, rJI, nI_add, pk_sub, kc_0, kc_1, kc_2, kc_3, kc_4, kc_5, reduceIte, Nat.reduceEqDiff, Nat.add_zero, rI_hold, rI_hold, rL_hold, hfd0]; done)) ?_
  refine Bod.ic 1 (by decide) dc_387_8 ?_
  refine Bod.icT dc_387_9 rfl (k2_ne_T (k_ne fd0 1 rfl rfl (by omega) (by omega) (by omega))) ?_
  refine Bod.go dc_387_75 rfl ?_
  refine Bod.ifF dc_387_76 rfl (k1_ne_F (k_eq 0 0 rfl rfl (by omega))) ?_
  refine Bod.go dc_387_79 rfl ?_
  refine Bod.get dc_387_80 fr_387_531 (mk_thing ag (by first | exact hz1 | (simp only [rIS, rJS, rAS, rLS, rVS, rQS, rS_hold]; exact hz1))) rfl ?_
  refine Bod.eqI (nI fd0) (by first | assumption | rfl | exact congrArg nI (by omega) | (simp (disch := omega) only [rIn, rIe, rA, rIA, rLA, rJA, rVI, rQI, rVA, rQA, upd_at,  rAI, rLI, rJI, nI_add, pk_sub, kc_0, kc_1, kc_2, kc_3, kc_4, kc_5, reduceIte, Nat.reduceEqDiff, Nat.add_zero, rI_hold, rI_hold, rL_hold, hfd0]; done)) ?_
  refine Bod.ic 2 (by decide) dc_387_83 ?_
  refine Bod.icT dc_387_84 rfl (k2_ne_T (k_ne fd0 2 rfl rfl (by omega) (by omega) (by omega))) ?_
  refine Bod.go dc_387_180 rfl ?_
  refine Bod.go dc_387_181 rfl ?_
  refine Bod.get dc_387_182 fr_387_531 (mk_thing ag (by first | exact hz1 | (simp only [rIS, rJS, rAS, rLS, rVS, rQS, rS_hold]; exact hz1))) rfl ?_
  refine Bod.eqI (nI fd0) (by first | assumption | rfl | exact congrArg nI (by omega) | (simp (disch := omega) only [rIn, rIe, rA, rIA, rLA, rJA, rVI, rQI, rVA, rQA, upd_at,  rAI, rLI, rJI, nI_add, pk_sub, kc_0, kc_1, kc_2, kc_3, kc_4, kc_5, reduceIte, Nat.reduceEqDiff, Nat.add_zero, rI_hold, rI_hold, rL_hold, hfd0]; done)) ?_
  refine Bod.ic 1 (by decide) dc_387_185 ?_
  refine Bod.icT dc_387_186 rfl (k2_ne_T (k_ne fd0 1 rfl rfl (by omega) (by omega) (by omega))) ?_
  refine Bod.go dc_387_195 rfl ?_
  refine Bod.get dc_387_196 fr_387_531 (mk_thing ag (by first | exact hz1 | (simp only [rIS, rJS, rAS, rLS, rVS, rQS, rS_hold]; exact hz1))) rfl ?_
  refine Bod.eqI (nI fd0) (by first | assumption | rfl | exact congrArg nI (by omega) | (simp (disch := omega) only [rIn, rIe, rA, rIA, rLA, rJA, rVI, rQI, rVA, rQA, upd_at,  rAI, rLI, rJI, nI_add, pk_sub, kc_0, kc_1, kc_2, kc_3, kc_4, kc_5, reduceIte, Nat.reduceEqDiff, Nat.add_zero, rI_hold, rI_hold, rL_hold, hfd0]; done)) ?_
  refine Bod.ic 2 (by decide) dc_387_199 ?_
  refine Bod.icT dc_387_200 rfl (k2_ne_T (k_ne fd0 2 rfl rfl (by omega) (by omega) (by omega))) ?_
  refine Bod.go dc_387_209 rfl ?_
  refine Bod.get dc_387_210 fr_387_531 (mk_thing ag (by first | exact hz1 | (simp only [rIS, rJS, rAS, rLS, rVS, rQS, rS_hold]; exact hz1))) rfl ?_
  refine Bod.eqI (nI fd0) (by first | assumption | rfl | exact congrArg nI (by omega) | (simp (disch := omega) only [rIn, rIe, rA, rIA, rLA, rJA, rVI, rQI, rVA, rQA, upd_at,  rAI, rLI, rJI, nI_add, pk_sub, kc_0, kc_1, kc_2, kc_3, kc_4, kc_5, reduceIte, Nat.reduceEqDiff, Nat.add_zero, rI_hold, rI_hold, rL_hold, hfd0]; done)) ?_
  refine Bod.ic 3 (by decide) dc_387_213 ?_
  refine Bod.icT dc_387_214 rfl (k2_ne_T (k_ne fd0 3 rfl rfl (by omega) (by omega) (by omega))) ?_
  refine Bod.go dc_387_223 rfl ?_
  refine Bod.get dc_387_224 fr_387_531 (mk_thing ag (by first | exact hz1 | (simp only [rIS, rJS, rAS, rLS, rVS, rQS, rS_hold]; exact hz1))) rfl ?_
  refine Bod.eqI (nI fd0) (by first | assumption | rfl | exact congrArg nI (by omega) | (simp (disch := omega) only [rIn, rIe, rA, rIA, rLA, rJA, rVI, rQI, rVA, rQA, upd_at,  rAI, rLI, rJI, nI_add, pk_sub, kc_0, kc_1, kc_2, kc_3, kc_4, kc_5, reduceIte, Nat.reduceEqDiff, Nat.add_zero, rI_hold, rI_hold, rL_hold, hfd0]; done)) ?_
  refine Bod.ic 4 (by decide) dc_387_227 ?_
  refine Bod.icT dc_387_228 rfl (k2_ne_T (k_ne fd0 4 rfl rfl (by omega) (by omega) (by omega))) ?_
  refine Bod.go dc_387_237 rfl ?_
  refine Bod.get dc_387_238 fr_387_531 (mk_thing ag (by first | exact hz1 | (simp only [rIS, rJS, rAS, rLS, rVS, rQS, rS_hold]; exact hz1))) rfl ?_
  refine Bod.eqI (nI fd0) (by first | assumption | rfl | exact congrArg nI (by omega) | (simp (disch := omega) only [rIn, rIe, rA, rIA, rLA, rJA, rVI, rQI, rVA, rQA, upd_at,  rAI, rLI, rJI, nI_add, pk_sub, kc_0, kc_1, kc_2, kc_3, kc_4, kc_5, reduceIte, Nat.reduceEqDiff, Nat.add_zero, rI_hold, rI_hold, rL_hold, hfd0]; done)) ?_
  refine Bod.ic 5 (by decide) dc_387_241 ?_
  refine Bod.icT dc_387_242 rfl (k2_ne_T (k_ne fd0 5 rfl rfl (by omega) (by omega) (by omega))) ?_
  refine Bod.ldcW dc_387_251 cs_387_846 ?_
  refine Bod.virt (r := []) dc_387_254 kr_387_821 ⟨Or.inl rfl, ow_384, cl_14⟩ (by rw [np_384]; rfl) (by rw [np_384]; rfl) (ob_of (mk_61 _)) (Nat.le_of_ble_eq_true rfl) (c1  ) ?_
  show Bod _ _ _ _ [] _ _ _
  refine Bod.go dc_387_257 rfl ?_
  refine Bod.ifF dc_387_258 rfl (k1_ne_F (k_eq 0 0 rfl rfl (by omega))) ?_
  refine Bod.go dc_387_261 rfl ?_
  refine Bod.bip 32 (by decide) dc_387_262 ?_
  refine Bod.virt (r := []) dc_387_264 kr_387_818 ⟨Or.inl rfl, ow_382, cl_14⟩ (by rw [np_382]; rfl) (by rw [np_382]; rfl) (ob_of (mk_61 _)) (Nat.le_of_ble_eq_true rfl) (c2  ) ?_
  show Bod _ _ _ _ [] _ _ _
  refine Bod.go dc_387_267 rfl ?_
  refine Bod.get dc_387_268 fr_387_531 (mk_thing ag (by first | exact hz2 | (simp only [rIS, rJS, rAS, rLS, rVS, rQS, rS_hold]; exact hz2))) rfl ?_
  refine Bod.eqI (nI fd01) (by first | assumption | (simp (disch := omega) only [rIn, rIe, rA, rIA, rLA, rJA, rVI, rQI, rVA, rQA, upd_at,  rAI, rLI, rJI, nI_add, pk_sub, kc_0, kc_1, kc_2, kc_3, kc_4, kc_5, reduceIte, Nat.reduceEqDiff, Nat.add_zero, rI_hold, rI_hold, rL_hold, hfd0, hfd01]; done) | (simp (disch := omega) only [rIn, rIe, rA, rIA, rLA, rJA, rVI, rQI, rVA, rQA, upd_at,  rAI, rLI, rJI, nI_add, pk_sub, kc_0, kc_1, kc_2, kc_3, kc_4, kc_5, reduceIte, Nat.reduceEqDiff, Nat.add_zero, rI_hold, rI_hold, rL_hold, hfd0, hfd01]; exact congrArg nI (by omega))) ?_
  refine Bod.ic 5 (by decide) dc_387_271 ?_
  refine Bod.icT dc_387_272 rfl (k2_eq_T (k_eq fd01 5 rfl rfl (by omega))) ?_
  refine Bod.go dc_387_284 rfl ?_
  refine Bod.get dc_387_285 fr_387_485 (mk_61 _) rfl ?_
  refine Bod.go dc_387_288 rfl ?_
  refine Bod.get dc_387_289 fr_387_472 (mk_thing ag (by first | exact hz2 | (simp only [rIS, rJS, rAS, rLS, rVS, rQS, rS_hold]; exact hz2))) rfl ?_
  refine Bod.eqI (nI fd11) (by first | assumption | (simp (disch := omega) only [rIn, rIe, rA, rIA, rLA, rJA, rVI, rQI, rVA, rQA, upd_at,  rAI, rLI, rJI, nI_add, pk_sub, kc_0, kc_1, kc_2, kc_3, kc_4, kc_5, reduceIte, Nat.reduceEqDiff, Nat.add_zero, rI_hold, rI_hold, rL_hold, hfd0, hfd01, hfd11]; done) | (simp (disch := omega) only [rIn, rIe, rA, rIA, rLA, rJA, rVI, rQI, rVA, rQA, upd_at,  rAI, rLI, rJI, nI_add, pk_sub, kc_0, kc_1, kc_2, kc_3, kc_4, kc_5, reduceIte, Nat.reduceEqDiff, Nat.add_zero, rI_hold, rI_hold, rL_hold, hfd0, hfd01, hfd11]; exact congrArg nI (by omega))) ?_
  refine Bod.aaldR (N := 1500) (b := g) fd11 rfl (by omega) (by omega) (by first | exact hq4 | (simp only [rIQ, rJQ, rAQ, rLQ, rVQ, rQ_holdE]; exact hq4)) dc_387_292 (mk_86 _) ht_5 ?_
  refine Bod.get dc_387_293 fr_387_694 (mk_thing ag (by first | exact hz2 | (simp only [rIS, rJS, rAS, rLS, rVS, rQS, rS_hold]; exact hz2))) rfl ?_
  refine Bod.eqI (nI fd10) (by first | assumption | (simp (disch := omega) only [rIn, rIe, rA, rIA, rLA, rJA, rVI, rQI, rVA, rQA, upd_at,  rAI, rLI, rJI, nI_add, pk_sub, kc_0, kc_1, kc_2, kc_3, kc_4, kc_5, reduceIte, Nat.reduceEqDiff, Nat.add_zero, rI_hold, rI_hold, rL_hold, hfd0, hfd01, hfd11, hfd10]; done) | (simp (disch := omega) only [rIn, rIe, rA, rIA, rLA, rJA, rVI, rQI, rVA, rQA, upd_at,  rAI, rLI, rJI, nI_add, pk_sub, kc_0, kc_1, kc_2, kc_3, kc_4, kc_5, reduceIte, Nat.reduceEqDiff, Nat.add_zero, rI_hold, rI_hold, rL_hold, hfd0, hfd01, hfd11, hfd10]; exact congrArg nI (by omega))) ?_
  refine Bod.go dc_387_296 rfl ?_
  refine Bod.istn dc_387_303 (by rw [ml_387]; exact Nat.le_of_ble_eq_true rfl) ?_
  refine Bod.ic 0 (by decide) dc_387_304 ?_
  refine Bod.ist dc_387_305 (by rw [ml_387]; exact Nat.le_of_ble_eq_true rfl) ?_
  exact hB _ (by first | rfl | exact (by repeat (first | exact rfl | exact sm_get_p1 | exact sm_get_p2e | refine sm_get_p1m (by decide) (by decide) ?_ | refine sm_get_p1n (by decide) rfl ?_ | refine sm_get_p2n (by decide) (by decide) rfl ?_ | refine sm_get_p2m (by decide) (by decide) (by decide) ?_))) (by first | rfl | exact (by repeat (first | exact rfl | exact sm_get_p1 | exact sm_get_p2e | refine sm_get_p1m (by decide) (by decide) ?_ | refine sm_get_p1n (by decide) rfl ?_ | refine sm_get_p2n (by decide) (by decide) rfl ?_ | refine sm_get_p2m (by decide) (by decide) (by decide) ?_))) (by first | rfl | exact (by repeat (first | exact rfl | exact sm_get_p1 | exact sm_get_p2e | refine sm_get_p1m (by decide) (by decide) ?_ | refine sm_get_p1n (by decide) rfl ?_ | refine sm_get_p2n (by decide) (by decide) rfl ?_ | refine sm_get_p2m (by decide) (by decide) (by decide) ?_)))
theorem rSt0_2 {d : Nat} {S Sf : cS} {v : Option Value} {g : Nat} {zg : Nat} {fd0 : Nat} {S1 : cS} {S2 : cS} {fd01 : Nat} {fd10 : Nat} (ag : 108 ≤ g) (hz1 : (sS S)[g - 108]? = some (13, zg)) (hfd0 : sI S (100 * g + 0) = nI fd0) (mfd0 : fd0 < 2 ^ 20) (b1 : fd0 ≠ 1) (b2 : fd0 ≠ 2) (b3 : fd0 ≠ 3) (b4 : fd0 ≠ 4) (b5 : fd0 ≠ 5) (c1 : Ans (d + 8) 384 [.ref 61, .retAddr (2 * 50)] S none S1) (c2 : Ans (d + 8) 382 [.ref 61, .int (nI 32)] S1 none S2) (hz2 : (sS S2)[g - 108]? = some (13, zg)) (hfd01 : sI S2 (100 * g + 0) = nI fd01) (mfd01 : fd01 < 2 ^ 20) (b6 : fd01 ≠ 5) (b7 : fd01 ≠ 6) (hfd10 : sI S2 (100 * g + 10) = nI fd10) (mfd10 : fd10 < 2 ^ 20) (hB : ∀ lv1 : sm_L, sm_get lv1 0 = some (.ref 61) → sm_get lv1 3 = some (.int (nI fd10)) → sm_get lv1 4 = some (.int (nI 0)) → Bod (d + 8) 387 307 lv1 [] (S2) v Sf) : Bod (d + 8) 387 0 [(0, .ref 61), (1, .ref g), (2, .int (nI 0))] [] S v Sf := by
  refine Bod.go dc_387_0 rfl ?_
  refine Bod.ifF dc_387_1 rfl (k1_ne_F (k_eq 0 0 rfl rfl (by omega))) ?_
  refine Bod.go dc_387_4 rfl ?_
  refine Bod.get dc_387_5 fr_387_531 (mk_thing ag (by first | exact hz1 | (simp only [rIS, rJS, rAS, rLS, rVS, rQS, rS_hold]; exact hz1))) rfl ?_
  refine Bod.eqI (nI fd0) (by first | assumption | rfl | exact congrArg nI (by omega) | (simp (disch := omega) only [rIn, rIe, rA, rIA, rLA, rJA, rVI, rQI, rVA, rQA, upd_at,  rAI, rLI, rJI, nI_add, pk_sub, kc_0, kc_1, kc_2, kc_3, kc_4, kc_5, reduceIte, Nat.reduceEqDiff, Nat.add_zero, rI_hold, rI_hold, rL_hold, hfd0]; done)) ?_
  refine Bod.ic 1 (by decide) dc_387_8 ?_
  refine Bod.icT dc_387_9 rfl (k2_ne_T (k_ne fd0 1 rfl rfl (by omega) (by omega) (by omega))) ?_
  refine Bod.go dc_387_75 rfl ?_
  refine Bod.ifF dc_387_76 rfl (k1_ne_F (k_eq 0 0 rfl rfl (by omega))) ?_
  refine Bod.go dc_387_79 rfl ?_
  refine Bod.get dc_387_80 fr_387_531 (mk_thing ag (by first | exact hz1 | (simp only [rIS, rJS, rAS, rLS, rVS, rQS, rS_hold]; exact hz1))) rfl ?_
  refine Bod.eqI (nI fd0) (by first | assumption | rfl | exact congrArg nI (by omega) | (simp (disch := omega) only [rIn, rIe, rA, rIA, rLA, rJA, rVI, rQI, rVA, rQA, upd_at,  rAI, rLI, rJI, nI_add, pk_sub, kc_0, kc_1, kc_2, kc_3, kc_4, kc_5, reduceIte, Nat.reduceEqDiff, Nat.add_zero, rI_hold, rI_hold, rL_hold, hfd0]; done)) ?_
  refine Bod.ic 2 (by decide) dc_387_83 ?_
  refine Bod.icT dc_387_84 rfl (k2_ne_T (k_ne fd0 2 rfl rfl (by omega) (by omega) (by omega))) ?_
  refine Bod.go dc_387_180 rfl ?_
  refine Bod.go dc_387_181 rfl ?_
  refine Bod.get dc_387_182 fr_387_531 (mk_thing ag (by first | exact hz1 | (simp only [rIS, rJS, rAS, rLS, rVS, rQS, rS_hold]; exact hz1))) rfl ?_
  refine Bod.eqI (nI fd0) (by first | assumption | rfl | exact congrArg nI (by omega) | (simp (disch := omega) only [rIn, rIe, rA, rIA, rLA, rJA, rVI, rQI, rVA, rQA, upd_at,  rAI, rLI, rJI, nI_add, pk_sub, kc_0, kc_1, kc_2, kc_3, kc_4, kc_5, reduceIte, Nat.reduceEqDiff, Nat.add_zero, rI_hold, rI_hold, rL_hold, hfd0]; done)) ?_
  refine Bod.ic 1 (by decide) dc_387_185 ?_
  refine Bod.icT dc_387_186 rfl (k2_ne_T (k_ne fd0 1 rfl rfl (by omega) (by omega) (by omega))) ?_
  refine Bod.go dc_387_195 rfl ?_
  refine Bod.get dc_387_196 fr_387_531 (mk_thing ag (by first | exact hz1 | (simp only [rIS, rJS, rAS, rLS, rVS, rQS, rS_hold]; exact hz1))) rfl ?_
  refine Bod.eqI (nI fd0) (by first | assumption | rfl | exact congrArg nI (by omega) | (simp (disch := omega) only [rIn, rIe, rA, rIA, rLA, rJA, rVI, rQI, rVA, rQA, upd_at,  rAI, rLI, rJI, nI_add, pk_sub, kc_0, kc_1, kc_2, kc_3, kc_4, kc_5, reduceIte, Nat.reduceEqDiff, Nat.add_zero, rI_hold, rI_hold, rL_hold, hfd0]; done)) ?_
  refine Bod.ic 2 (by decide) dc_387_199 ?_
  refine Bod.icT dc_387_200 rfl (k2_ne_T (k_ne fd0 2 rfl rfl (by omega) (by omega) (by omega))) ?_
  refine Bod.go dc_387_209 rfl ?_
  refine Bod.get dc_387_210 fr_387_531 (mk_thing ag (by first | exact hz1 | (simp only [rIS, rJS, rAS, rLS, rVS, rQS, rS_hold]; exact hz1))) rfl ?_
  refine Bod.eqI (nI fd0) (by first | assumption | rfl | exact congrArg nI (by omega) | (simp (disch := omega) only [rIn, rIe, rA, rIA, rLA, rJA, rVI, rQI, rVA, rQA, upd_at,  rAI, rLI, rJI, nI_add, pk_sub, kc_0, kc_1, kc_2, kc_3, kc_4, kc_5, reduceIte, Nat.reduceEqDiff, Nat.add_zero, rI_hold, rI_hold, rL_hold, hfd0]; done)) ?_
  refine Bod.ic 3 (by decide) dc_387_213 ?_
  refine Bod.icT dc_387_214 rfl (k2_ne_T (k_ne fd0 3 rfl rfl (by omega) (by omega) (by omega))) ?_
  refine Bod.go dc_387_223 rfl ?_
  refine Bod.get dc_387_224 fr_387_531 (mk_thing ag (by first | exact hz1 | (simp only [rIS, rJS, rAS, rLS, rVS, rQS, rS_hold]; exact hz1))) rfl ?_
  refine Bod.eqI (nI fd0) (by first | assumption | rfl | exact congrArg nI (by omega) | (simp (disch := omega) only [rIn, rIe, rA, rIA, rLA, rJA, rVI, rQI, rVA, rQA, upd_at,  rAI, rLI, rJI, nI_add, pk_sub, kc_0, kc_1, kc_2, kc_3, kc_4, kc_5, reduceIte, Nat.reduceEqDiff, Nat.add_zero, rI_hold, rI_hold, rL_hold, hfd0]; done)) ?_
  refine Bod.ic 4 (by decide) dc_387_227 ?_
  refine Bod.icT dc_387_228 rfl (k2_ne_T (k_ne fd0 4 rfl rfl (by omega) (by omega) (by omega))) ?_
  refine Bod.go dc_387_237 rfl ?_
  refine Bod.get dc_387_238 fr_387_531 (mk_thing ag (by first | exact hz1 | (simp only [rIS, rJS, rAS, rLS, rVS, rQS, rS_hold]; exact hz1))) rfl ?_
  refine Bod.eqI (nI fd0) (by first | assumption | rfl | exact congrArg nI (by omega) | (simp (disch := omega) only [rIn, rIe, rA, rIA, rLA, rJA, rVI, rQI, rVA, rQA, upd_at,  rAI, rLI, rJI, nI_add, pk_sub, kc_0, kc_1, kc_2, kc_3, kc_4, kc_5, reduceIte, Nat.reduceEqDiff, Nat.add_zero, rI_hold, rI_hold, rL_hold, hfd0]; done)) ?_
  refine Bod.ic 5 (by decide) dc_387_241 ?_
  refine Bod.icT dc_387_242 rfl (k2_ne_T (k_ne fd0 5 rfl rfl (by omega) (by omega) (by omega))) ?_
  refine Bod.ldcW dc_387_251 cs_387_846 ?_
  refine Bod.virt (r := []) dc_387_254 kr_387_821 ⟨Or.inl rfl, ow_384, cl_14⟩ (by rw [np_384]; rfl) (by rw [np_384]; rfl) (ob_of (mk_61 _)) (Nat.le_of_ble_eq_true rfl) (c1  ) ?_
  show Bod _ _ _ _ [] _ _ _
  refine Bod.go dc_387_257 rfl ?_
  refine Bod.ifF dc_387_258 rfl (k1_ne_F (k_eq 0 0 rfl rfl (by omega))) ?_
  refine Bod.go dc_387_261 rfl ?_
  refine Bod.bip 32 (by decide) dc_387_262 ?_
  refine Bod.virt (r := []) dc_387_264 kr_387_818 ⟨Or.inl rfl, ow_382, cl_14⟩ (by rw [np_382]; rfl) (by rw [np_382]; rfl) (ob_of (mk_61 _)) (Nat.le_of_ble_eq_true rfl) (c2  ) ?_
  show Bod _ _ _ _ [] _ _ _
  refine Bod.go dc_387_267 rfl ?_
  refine Bod.get dc_387_268 fr_387_531 (mk_thing ag (by first | exact hz2 | (simp only [rIS, rJS, rAS, rLS, rVS, rQS, rS_hold]; exact hz2))) rfl ?_
  refine Bod.eqI (nI fd01) (by first | assumption | (simp (disch := omega) only [rIn, rIe, rA, rIA, rLA, rJA, rVI, rQI, rVA, rQA, upd_at,  rAI, rLI, rJI, nI_add, pk_sub, kc_0, kc_1, kc_2, kc_3, kc_4, kc_5, reduceIte, Nat.reduceEqDiff, Nat.add_zero, rI_hold, rI_hold, rL_hold, hfd0, hfd01]; done) | (simp (disch := omega) only [rIn, rIe, rA, rIA, rLA, rJA, rVI, rQI, rVA, rQA, upd_at,  rAI, rLI, rJI, nI_add, pk_sub, kc_0, kc_1, kc_2, kc_3, kc_4, kc_5, reduceIte, Nat.reduceEqDiff, Nat.add_zero, rI_hold, rI_hold, rL_hold, hfd0, hfd01]; exact congrArg nI (by omega))) ?_
  refine Bod.ic 5 (by decide) dc_387_271 ?_
  refine Bod.icF dc_387_272 rfl (k2_eq_F (k_ne fd01 5 rfl rfl (by omega) (by omega) (by omega))) ?_
  refine Bod.go dc_387_275 rfl ?_
  refine Bod.get dc_387_276 fr_387_531 (mk_thing ag (by first | exact hz2 | (simp only [rIS, rJS, rAS, rLS, rVS, rQS, rS_hold]; exact hz2))) rfl ?_
  refine Bod.eqI (nI fd01) (by first | assumption | (simp (disch := omega) only [rIn, rIe, rA, rIA, rLA, rJA, rVI, rQI, rVA, rQA, upd_at,  rAI, rLI, rJI, nI_add, pk_sub, kc_0, kc_1, kc_2, kc_3, kc_4, kc_5, reduceIte, Nat.reduceEqDiff, Nat.add_zero, rI_hold, rI_hold, rL_hold, hfd0, hfd01]; done) | (simp (disch := omega) only [rIn, rIe, rA, rIA, rLA, rJA, rVI, rQI, rVA, rQA, upd_at,  rAI, rLI, rJI, nI_add, pk_sub, kc_0, kc_1, kc_2, kc_3, kc_4, kc_5, reduceIte, Nat.reduceEqDiff, Nat.add_zero, rI_hold, rI_hold, rL_hold, hfd0, hfd01]; exact congrArg nI (by omega))) ?_
  refine Bod.bip 6 (by decide) dc_387_279 ?_
  refine Bod.icT dc_387_281 rfl (k2_ne_T (k_ne fd01 6 rfl rfl (by omega) (by omega) (by omega))) ?_
  refine Bod.go dc_387_299 rfl ?_
  refine Bod.get dc_387_300 fr_387_694 (mk_thing ag (by first | exact hz2 | (simp only [rIS, rJS, rAS, rLS, rVS, rQS, rS_hold]; exact hz2))) rfl ?_
  refine Bod.eqI (nI fd10) (by first | assumption | (simp (disch := omega) only [rIn, rIe, rA, rIA, rLA, rJA, rVI, rQI, rVA, rQA, upd_at,  rAI, rLI, rJI, nI_add, pk_sub, kc_0, kc_1, kc_2, kc_3, kc_4, kc_5, reduceIte, Nat.reduceEqDiff, Nat.add_zero, rI_hold, rI_hold, rL_hold, hfd0, hfd01, hfd10]; done) | (simp (disch := omega) only [rIn, rIe, rA, rIA, rLA, rJA, rVI, rQI, rVA, rQA, upd_at,  rAI, rLI, rJI, nI_add, pk_sub, kc_0, kc_1, kc_2, kc_3, kc_4, kc_5, reduceIte, Nat.reduceEqDiff, Nat.add_zero, rI_hold, rI_hold, rL_hold, hfd0, hfd01, hfd10]; exact congrArg nI (by omega))) ?_
  refine Bod.istn dc_387_303 (by rw [ml_387]; exact Nat.le_of_ble_eq_true rfl) ?_
  refine Bod.ic 0 (by decide) dc_387_304 ?_
  refine Bod.ist dc_387_305 (by rw [ml_387]; exact Nat.le_of_ble_eq_true rfl) ?_
  exact hB _ (by first | rfl | exact (by repeat (first | exact rfl | exact sm_get_p1 | exact sm_get_p2e | refine sm_get_p1m (by decide) (by decide) ?_ | refine sm_get_p1n (by decide) rfl ?_ | refine sm_get_p2n (by decide) (by decide) rfl ?_ | refine sm_get_p2m (by decide) (by decide) (by decide) ?_))) (by first | rfl | exact (by repeat (first | exact rfl | exact sm_get_p1 | exact sm_get_p2e | refine sm_get_p1m (by decide) (by decide) ?_ | refine sm_get_p1n (by decide) rfl ?_ | refine sm_get_p2n (by decide) (by decide) rfl ?_ | refine sm_get_p2m (by decide) (by decide) (by decide) ?_))) (by first | rfl | exact (by repeat (first | exact rfl | exact sm_get_p1 | exact sm_get_p2e | refine sm_get_p1m (by decide) (by decide) ?_ | refine sm_get_p1n (by decide) rfl ?_ | refine sm_get_p2n (by decide) (by decide) rfl ?_ | refine sm_get_p2m (by decide) (by decide) (by decide) ?_)))
theorem rSt0_3 {d : Nat} {S Sf : cS} {v : Option Value} {g : Nat} {zg : Nat} {fd0 : Nat} {S1 : cS} {S2 : cS} {fd01 : Nat} {fd11 : Nat} {g : Nat} {zg : Nat} {fd10 : Nat} (ag : 108 ≤ g) (hz1 : (sS S)[g - 108]? = some (13, zg)) (hfd0 : sI S (100 * g + 0) = nI fd0) (mfd0 : fd0 < 2 ^ 20) (b1 : fd0 ≠ 1) (b2 : fd0 ≠ 2) (b3 : fd0 ≠ 3) (b4 : fd0 ≠ 4) (b5 : fd0 ≠ 5) (c1 : Ans (d + 8) 384 [.ref 61, .retAddr (2 * 50)] S none S1) (c2 : Ans (d + 8) 382 [.ref 61, .int (nI 32)] S1 none S2) (hz2 : (sS S2)[g - 108]? = some (13, zg)) (hfd01 : sI S2 (100 * g + 0) = nI fd01) (mfd01 : fd01 < 2 ^ 20) (b6 : fd01 ≠ 5) (b7 : fd01 = 6) (hfd11 : sI S2 (100 * g + 11) = nI fd11) (mfd11 : fd11 < 2 ^ 20) (b8 : fd11 < 1500) (ag : 108 ≤ g) (hq4 : sQ S2 86 fd11 = some g) (hfd10 : sI S2 (100 * g + 10) = nI fd10) (mfd10 : fd10 < 2 ^ 20) (hB : ∀ lv1 : sm_L, sm_get lv1 0 = some (.ref 61) → sm_get lv1 3 = some (.int (nI fd10)) → sm_get lv1 4 = some (.int (nI 0)) → Bod (d + 8) 387 307 lv1 [] (S2) v Sf) : Bod (d + 8) 387 0 [(0, .ref 61), (1, .ref g), (2, .int (nI 0))] [] S v Sf := by
  refine Bod.go dc_387_0 rfl ?_
  refine Bod.ifF dc_387_1 rfl (k1_ne_F (k_eq 0 0 rfl rfl (by omega))) ?_
  refine Bod.go dc_387_4 rfl ?_
  refine Bod.get dc_387_5 fr_387_531 (mk_thing ag (by first | exact hz1 | (simp only [rIS, rJS, rAS, rLS, rVS, rQS, rS_hold]; exact hz1))) rfl ?_
  refine Bod.eqI (nI fd0) (by first | assumption | rfl | exact congrArg nI (by omega) | (simp (disch := omega) only [rIn, rIe, rA, rIA, rLA, rJA, rVI, rQI, rVA, rQA, upd_at,  rAI, rLI, rJI, nI_add, pk_sub, kc_0, kc_1, kc_2, kc_3, kc_4, kc_5, reduceIte, Nat.reduceEqDiff, Nat.add_zero, rI_hold, rI_hold, rL_hold, hfd0]; done)) ?_
  refine Bod.ic 1 (by decide) dc_387_8 ?_
  refine Bod.icT dc_387_9 rfl (k2_ne_T (k_ne fd0 1 rfl rfl (by omega) (by omega) (by omega))) ?_
  refine Bod.go dc_387_75 rfl ?_
  refine Bod.ifF dc_387_76 rfl (k1_ne_F (k_eq 0 0 rfl rfl (by omega))) ?_
  refine Bod.go dc_387_79 rfl ?_
  refine Bod.get dc_387_80 fr_387_531 (mk_thing ag (by first | exact hz1 | (simp only [rIS, rJS, rAS, rLS, rVS, rQS, rS_hold]; exact hz1))) rfl ?_
  refine Bod.eqI (nI fd0) (by first | assumption | rfl | exact congrArg nI (by omega) | (simp (disch := omega) only [rIn, rIe, rA, rIA, rLA, rJA, rVI, rQI, rVA, rQA, upd_at,  rAI, rLI, rJI, nI_add, pk_sub, kc_0, kc_1, kc_2, kc_3, kc_4, kc_5, reduceIte, Nat.reduceEqDiff, Nat.add_zero, rI_hold, rI_hold, rL_hold, hfd0]; done)) ?_
  refine Bod.ic 2 (by decide) dc_387_83 ?_
  refine Bod.icT dc_387_84 rfl (k2_ne_T (k_ne fd0 2 rfl rfl (by omega) (by omega) (by omega))) ?_
  refine Bod.go dc_387_180 rfl ?_
  refine Bod.go dc_387_181 rfl ?_
  refine Bod.get dc_387_182 fr_387_531 (mk_thing ag (by first | exact hz1 | (simp only [rIS, rJS, rAS, rLS, rVS, rQS, rS_hold]; exact hz1))) rfl ?_
  refine Bod.eqI (nI fd0) (by first | assumption | rfl | exact congrArg nI (by omega) | (simp (disch := omega) only [rIn, rIe, rA, rIA, rLA, rJA, rVI, rQI, rVA, rQA, upd_at,  rAI, rLI, rJI, nI_add, pk_sub, kc_0, kc_1, kc_2, kc_3, kc_4, kc_5, reduceIte, Nat.reduceEqDiff, Nat.add_zero, rI_hold, rI_hold, rL_hold, hfd0]; done)) ?_
  refine Bod.ic 1 (by decide) dc_387_185 ?_
  refine Bod.icT dc_387_186 rfl (k2_ne_T (k_ne fd0 1 rfl rfl (by omega) (by omega) (by omega))) ?_
  refine Bod.go dc_387_195 rfl ?_
  refine Bod.get dc_387_196 fr_387_531 (mk_thing ag (by first | exact hz1 | (simp only [rIS, rJS, rAS, rLS, rVS, rQS, rS_hold]; exact hz1))) rfl ?_
  refine Bod.eqI (nI fd0) (by first | assumption | rfl | exact congrArg nI (by omega) | (simp (disch := omega) only [rIn, rIe, rA, rIA, rLA, rJA, rVI, rQI, rVA, rQA, upd_at,  rAI, rLI, rJI, nI_add, pk_sub, kc_0, kc_1, kc_2, kc_3, kc_4, kc_5, reduceIte, Nat.reduceEqDiff, Nat.add_zero, rI_hold, rI_hold, rL_hold, hfd0]; done)) ?_
  refine Bod.ic 2 (by decide) dc_387_199 ?_
  refine Bod.icT dc_387_200 rfl (k2_ne_T (k_ne fd0 2 rfl rfl (by omega) (by omega) (by omega))) ?_
  refine Bod.go dc_387_209 rfl ?_
  refine Bod.get dc_387_210 fr_387_531 (mk_thing ag (by first | exact hz1 | (simp only [rIS, rJS, rAS, rLS, rVS, rQS, rS_hold]; exact hz1))) rfl ?_
  refine Bod.eqI (nI fd0) (by first | assumption | rfl | exact congrArg nI (by omega) | (simp (disch := omega) only [rIn, rIe, rA, rIA, rLA, rJA, rVI, rQI, rVA, rQA, upd_at,  rAI, rLI, rJI, nI_add, pk_sub, kc_0, kc_1, kc_2, kc_3, kc_4, kc_5, reduceIte, Nat.reduceEqDiff, Nat.add_zero, rI_hold, rI_hold, rL_hold, hfd0]; done)) ?_
  refine Bod.ic 3 (by decide) dc_387_213 ?_
  refine Bod.icT dc_387_214 rfl (k2_ne_T (k_ne fd0 3 rfl rfl (by omega) (by omega) (by omega))) ?_
  refine Bod.go dc_387_223 rfl ?_
  refine Bod.get dc_387_224 fr_387_531 (mk_thing ag (by first | exact hz1 | (simp only [rIS, rJS, rAS, rLS, rVS, rQS, rS_hold]; exact hz1))) rfl ?_
  refine Bod.eqI (nI fd0) (by first | assumption | rfl | exact congrArg nI (by omega) | (simp (disch := omega) only [rIn, rIe, rA, rIA, rLA, rJA, rVI, rQI, rVA, rQA, upd_at,  rAI, rLI, rJI, nI_add, pk_sub, kc_0, kc_1, kc_2, kc_3, kc_4, kc_5, reduceIte, Nat.reduceEqDiff, Nat.add_zero, rI_hold, rI_hold, rL_hold, hfd0]; done)) ?_
  refine Bod.ic 4 (by decide) dc_387_227 ?_
  refine Bod.icT dc_387_228 rfl (k2_ne_T (k_ne fd0 4 rfl rfl (by omega) (by omega) (by omega))) ?_
  refine Bod.go dc_387_237 rfl ?_
  refine Bod.get dc_387_238 fr_387_531 (mk_thing ag (by first | exact hz1 | (simp only [rIS, rJS, rAS, rLS, rVS, rQS, rS_hold]; exact hz1))) rfl ?_
  refine Bod.eqI (nI fd0) (by first | assumption | rfl | exact congrArg nI (by omega) | (simp (disch := omega) only [rIn, rIe, rA, rIA, rLA, rJA, rVI, rQI, rVA, rQA, upd_at,  rAI, rLI, rJI, nI_add, pk_sub, kc_0, kc_1, kc_2, kc_3, kc_4, kc_5, reduceIte, Nat.reduceEqDiff, Nat.add_zero, rI_hold, rI_hold, rL_hold, hfd0]; done)) ?_
  refine Bod.ic 5 (by decide) dc_387_241 ?_
  refine Bod.icT dc_387_242 rfl (k2_ne_T (k_ne fd0 5 rfl rfl (by omega) (by omega) (by omega))) ?_
  refine Bod.ldcW dc_387_251 cs_387_846 ?_
  refine Bod.virt (r := []) dc_387_254 kr_387_821 ⟨Or.inl rfl, ow_384, cl_14⟩ (by rw [np_384]; rfl) (by rw [np_384]; rfl) (ob_of (mk_61 _)) (Nat.le_of_ble_eq_true rfl) (c1  ) ?_
  show Bod _ _ _ _ [] _ _ _
  refine Bod.go dc_387_257 rfl ?_
  refine Bod.ifF dc_387_258 rfl (k1_ne_F (k_eq 0 0 rfl rfl (by omega))) ?_
  refine Bod.go dc_387_261 rfl ?_
  refine Bod.bip 32 (by decide) dc_387_262 ?_
  refine Bod.virt (r := []) dc_387_264 kr_387_818 ⟨Or.inl rfl, ow_382, cl_14⟩ (by rw [np_382]; rfl) (by rw [np_382]; rfl) (ob_of (mk_61 _)) (Nat.le_of_ble_eq_true rfl) (c2  ) ?_
  show Bod _ _ _ _ [] _ _ _
  refine Bod.go dc_387_267 rfl ?_
  refine Bod.get dc_387_268 fr_387_531 (mk_thing ag (by first | exact hz2 | (simp only [rIS, rJS, rAS, rLS, rVS, rQS, rS_hold]; exact hz2))) rfl ?_
  refine Bod.eqI (nI fd01) (by first | assumption | (simp (disch := omega) only [rIn, rIe, rA, rIA, rLA, rJA, rVI, rQI, rVA, rQA, upd_at,  rAI, rLI, rJI, nI_add, pk_sub, kc_0, kc_1, kc_2, kc_3, kc_4, kc_5, reduceIte, Nat.reduceEqDiff, Nat.add_zero, rI_hold, rI_hold, rL_hold, hfd0, hfd01]; done) | (simp (disch := omega) only [rIn, rIe, rA, rIA, rLA, rJA, rVI, rQI, rVA, rQA, upd_at,  rAI, rLI, rJI, nI_add, pk_sub, kc_0, kc_1, kc_2, kc_3, kc_4, kc_5, reduceIte, Nat.reduceEqDiff, Nat.add_zero, rI_hold, rI_hold, rL_hold, hfd0, hfd01]; exact congrArg nI (by omega))) ?_
  refine Bod.ic 5 (by decide) dc_387_271 ?_
  refine Bod.icF dc_387_272 rfl (k2_eq_F (k_ne fd01 5 rfl rfl (by omega) (by omega) (by omega))) ?_
  refine Bod.go dc_387_275 rfl ?_
  refine Bod.get dc_387_276 fr_387_531 (mk_thing ag (by first | exact hz2 | (simp only [rIS, rJS, rAS, rLS, rVS, rQS, rS_hold]; exact hz2))) rfl ?_
  refine Bod.eqI (nI fd01) (by first | assumption | (simp (disch := omega) only [rIn, rIe, rA, rIA, rLA, rJA, rVI, rQI, rVA, rQA, upd_at,  rAI, rLI, rJI, nI_add, pk_sub, kc_0, kc_1, kc_2, kc_3, kc_4, kc_5, reduceIte, Nat.reduceEqDiff, Nat.add_zero, rI_hold, rI_hold, rL_hold, hfd0, hfd01]; done) | (simp (disch := omega) only [rIn, rIe, rA, rIA, rLA, rJA, rVI, rQI, rVA, rQA, upd_at,  rAI, rLI, rJI, nI_add, pk_sub, kc_0, kc_1, kc_2, kc_3, kc_4, kc_5, reduceIte, Nat.reduceEqDiff, Nat.add_zero, rI_hold, rI_hold, rL_hold, hfd0, hfd01]; exact congrArg nI (by omega))) ?_
  refine Bod.bip 6 (by decide) dc_387_279 ?_
  refine Bod.icF dc_387_281 rfl (k2_ne_F (k_eq fd01 6 rfl rfl (by omega))) ?_
  refine Bod.go dc_387_284 rfl ?_
  refine Bod.get dc_387_285 fr_387_485 (mk_61 _) rfl ?_
  refine Bod.go dc_387_288 rfl ?_
  refine Bod.get dc_387_289 fr_387_472 (mk_thing ag (by first | exact hz2 | (simp only [rIS, rJS, rAS, rLS, rVS, rQS, rS_hold]; exact hz2))) rfl ?_
  refine Bod.eqI (nI fd11) (by first | assumption | (simp (disch := omega) only [rIn, rIe, rA, rIA, rLA, rJA, rVI, rQI, rVA, rQA, upd_at,  rAI, rLI, rJI, nI_add, pk_sub, kc_0, kc_1, kc_2, kc_3, kc_4, kc_5, reduceIte, Nat.reduceEqDiff, Nat.add_zero, rI_hold, rI_hold, rL_hold, hfd0, hfd01, hfd11]; done) | (simp (disch := omega) only [rIn, rIe, rA, rIA, rLA, rJA, rVI, rQI, rVA, rQA, upd_at,  rAI, rLI, rJI, nI_add, pk_sub, kc_0, kc_1, kc_2, kc_3, kc_4, kc_5, reduceIte, Nat.reduceEqDiff, Nat.add_zero, rI_hold, rI_hold, rL_hold, hfd0, hfd01, hfd11]; exact congrArg nI (by omega))) ?_
  refine Bod.aaldR (N := 1500) (b := g) fd11 rfl (by omega) (by omega) (by first | exact hq4 | (simp only [rIQ, rJQ, rAQ, rLQ, rVQ, rQ_holdE]; exact hq4)) dc_387_292 (mk_86 _) ht_5 ?_
  refine Bod.get dc_387_293 fr_387_694 (mk_thing ag (by first | exact hz2 | (simp only [rIS, rJS, rAS, rLS, rVS, rQS, rS_hold]; exact hz2))) rfl ?_
  refine Bod.eqI (nI fd10) (by first | assumption | (simp (disch := omega) only [rIn, rIe, rA, rIA, rLA, rJA, rVI, rQI, rVA, rQA, upd_at,  rAI, rLI, rJI, nI_add, pk_sub, kc_0, kc_1, kc_2, kc_3, kc_4, kc_5, reduceIte, Nat.reduceEqDiff, Nat.add_zero, rI_hold, rI_hold, rL_hold, hfd0, hfd01, hfd11, hfd10]; done) | (simp (disch := omega) only [rIn, rIe, rA, rIA, rLA, rJA, rVI, rQI, rVA, rQA, upd_at,  rAI, rLI, rJI, nI_add, pk_sub, kc_0, kc_1, kc_2, kc_3, kc_4, kc_5, reduceIte, Nat.reduceEqDiff, Nat.add_zero, rI_hold, rI_hold, rL_hold, hfd0, hfd01, hfd11, hfd10]; exact congrArg nI (by omega))) ?_
  refine Bod.go dc_387_296 rfl ?_
  refine Bod.istn dc_387_303 (by rw [ml_387]; exact Nat.le_of_ble_eq_true rfl) ?_
  refine Bod.ic 0 (by decide) dc_387_304 ?_
  refine Bod.ist dc_387_305 (by rw [ml_387]; exact Nat.le_of_ble_eq_true rfl) ?_
  exact hB _ (by first | rfl | exact (by repeat (first | exact rfl | exact sm_get_p1 | exact sm_get_p2e | refine sm_get_p1m (by decide) (by decide) ?_ | refine sm_get_p1n (by decide) rfl ?_ | refine sm_get_p2n (by decide) (by decide) rfl ?_ | refine sm_get_p2m (by decide) (by decide) (by decide) ?_))) (by first | rfl | exact (by repeat (first | exact rfl | exact sm_get_p1 | exact sm_get_p2e | refine sm_get_p1m (by decide) (by decide) ?_ | refine sm_get_p1n (by decide) rfl ?_ | refine sm_get_p2n (by decide) (by decide) rfl ?_ | refine sm_get_p2m (by decide) (by decide) (by decide) ?_))) (by first | rfl | exact (by repeat (first | exact rfl | exact sm_get_p1 | exact sm_get_p2e | refine sm_get_p1m (by decide) (by decide) ?_ | refine sm_get_p1n (by decide) rfl ?_ | refine sm_get_p2n (by decide) (by decide) rfl ?_ | refine sm_get_p2m (by decide) (by decide) (by decide) ?_)))
theorem rSt0_4 {d : Nat} {S Sf : cS} {v : Option Value} {g : Nat} {zg : Nat} {fd0 : Nat} {S1 : cS} {S2 : cS} {fd01 : Nat} {fd11 : Nat} {g : Nat} {zg : Nat} {fd10 : Nat} (ag : 108 ≤ g) (hz1 : (sS S)[g - 108]? = some (13, zg)) (hfd0 : sI S (100 * g + 0) = nI fd0) (mfd0 : fd0 < 2 ^ 20) (b1 : fd0 ≠ 1) (b2 : fd0 ≠ 2) (b3 : fd0 ≠ 3) (b4 : fd0 ≠ 4) (b5 : fd0 = 5) (c1 : Ans (d + 8) 384 [.ref 61, .retAddr (2 * 49)] S none S1) (c2 : Ans (d + 8) 382 [.ref 61, .int (nI 32)] S1 none S2) (hz2 : (sS S2)[g - 108]? = some (13, zg)) (hfd01 : sI S2 (100 * g + 0) = nI fd01) (mfd01 : fd01 < 2 ^ 20) (b6 : fd01 = 5) (hfd11 : sI S2 (100 * g + 11) = nI fd11) (mfd11 : fd11 < 2 ^ 20) (b7 : fd11 < 1500) (ag : 108 ≤ g) (hq4 : sQ S2 86 fd11 = some g) (hfd10 : sI S2 (100 * g + 10) = nI fd10) (mfd10 : fd10 < 2 ^ 20) (hB : ∀ lv1 : sm_L, sm_get lv1 0 = some (.ref 61) → sm_get lv1 3 = some (.int (nI fd10)) → sm_get lv1 4 = some (.int (nI 0)) → Bod (d + 8) 387 307 lv1 [] (S2) v Sf) : Bod (d + 8) 387 0 [(0, .ref 61), (1, .ref g), (2, .int (nI 0))] [] S v Sf := by
  refine Bod.go dc_387_0 rfl ?_
  refine Bod.ifF dc_387_1 rfl (k1_ne_F (k_eq 0 0 rfl rfl (by omega))) ?_
  refine Bod.go dc_387_4 rfl ?_
  refine Bod.get dc_387_5 fr_387_531 (mk_thing ag (by first | exact hz1 | (simp only [rIS, rJS, rAS, rLS, rVS, rQS, rS_hold]; exact hz1))) rfl ?_
  refine Bod.eqI (nI fd0) (by first | assumption | rfl | exact congrArg nI (by omega) | (simp (disch := omega) only [rIn, rIe, rA, rIA, rLA, rJA, rVI, rQI, rVA, rQA, upd_at,  rAI, rLI, rJI, nI_add, pk_sub, kc_0, kc_1, kc_2, kc_3, kc_4, kc_5, reduceIte, Nat.reduceEqDiff, Nat.add_zero, rI_hold, rI_hold, rL_hold, hfd0]; done)) ?_
  refine Bod.ic 1 (by decide) dc_387_8 ?_
  refine Bod.icT dc_387_9 rfl (k2_ne_T (k_ne fd0 1 rfl rfl (by omega) (by omega) (by omega))) ?_
  refine Bod.go dc_387_75 rfl ?_
  refine Bod.ifF dc_387_76 rfl (k1_ne_F (k_eq 0 0 rfl rfl (by omega))) ?_
  refine Bod.go dc_387_79 rfl ?_
  refine Bod.get dc_387_80 fr_387_531 (mk_thing ag (by first | exact hz1 | (simp only [rIS, rJS, rAS, rLS, rVS, rQS, rS_hold]; exact hz1))) rfl ?_
  refine Bod.eqI (nI fd0) (by first | assumption | rfl | exact congrArg nI (by omega) | (simp (disch := omega) only [rIn, rIe, rA, rIA, rLA, rJA, rVI, rQI, rVA, rQA, upd_at,  rAI, rLI, rJI, nI_add, pk_sub, kc_0, kc_1, kc_2, kc_3, kc_4, kc_5, reduceIte, Nat.reduceEqDiff, Nat.add_zero, rI_hold, rI_hold, rL_hold, hfd0]; done)) ?_
  refine Bod.ic 2 (by decide) dc_387_83 ?_
  refine Bod.icT dc_387_84 rfl (k2_ne_T (k_ne fd0 2 rfl rfl (by omega) (by omega) (by omega))) ?_
  refine Bod.go dc_387_180 rfl ?_
  refine Bod.go dc_387_181 rfl ?_
  refine Bod.get dc_387_182 fr_387_531 (mk_thing ag (by first | exact hz1 | (simp only [rIS, rJS, rAS, rLS, rVS, rQS, rS_hold]; exact hz1))) rfl ?_
  refine Bod.eqI (nI fd0) (by first | assumption | rfl | exact congrArg nI (by omega) | (simp (disch := omega) only [rIn, rIe, rA, rIA, rLA, rJA, rVI, rQI, rVA, rQA, upd_at,  rAI, rLI, rJI, nI_add, pk_sub, kc_0, kc_1, kc_2, kc_3, kc_4, kc_5, reduceIte, Nat.reduceEqDiff, Nat.add_zero, rI_hold, rI_hold, rL_hold, hfd0]; done)) ?_
  refine Bod.ic 1 (by decide) dc_387_185 ?_
  refine Bod.icT dc_387_186 rfl (k2_ne_T (k_ne fd0 1 rfl rfl (by omega) (by omega) (by omega))) ?_
  refine Bod.go dc_387_195 rfl ?_
  refine Bod.get dc_387_196 fr_387_531 (mk_thing ag (by first | exact hz1 | (simp only [rIS, rJS, rAS, rLS, rVS, rQS, rS_hold]; exact hz1))) rfl ?_
  refine Bod.eqI (nI fd0) (by first | assumption | rfl | exact congrArg nI (by omega) | (simp (disch := omega) only [rIn, rIe, rA, rIA, rLA, rJA, rVI, rQI, rVA, rQA, upd_at,  rAI, rLI, rJI, nI_add, pk_sub, kc_0, kc_1, kc_2, kc_3, kc_4, kc_5, reduceIte, Nat.reduceEqDiff, Nat.add_zero, rI_hold, rI_hold, rL_hold, hfd0]; done)) ?_
  refine Bod.ic 2 (by decide) dc_387_199 ?_
  refine Bod.icT dc_387_200 rfl (k2_ne_T (k_ne fd0 2 rfl rfl (by omega) (by omega) (by omega))) ?_
  refine Bod.go dc_387_209 rfl ?_
  refine Bod.get dc_387_210 fr_387_531 (mk_thing ag (by first | exact hz1 | (simp only [rIS, rJS, rAS, rLS, rVS, rQS, rS_hold]; exact hz1))) rfl ?_
  refine Bod.eqI (nI fd0) (by first | assumption | rfl | exact congrArg nI (by omega) | (simp (disch := omega) only [rIn, rIe, rA, rIA, rLA, rJA, rVI, rQI, rVA, rQA, upd_at,  rAI, rLI, rJI, nI_add, pk_sub, kc_0, kc_1, kc_2, kc_3, kc_4, kc_5, reduceIte, Nat.reduceEqDiff, Nat.add_zero, rI_hold, rI_hold, rL_hold, hfd0]; done)) ?_
  refine Bod.ic 3 (by decide) dc_387_213 ?_
  refine Bod.icT dc_387_214 rfl (k2_ne_T (k_ne fd0 3 rfl rfl (by omega) (by omega) (by omega))) ?_
  refine Bod.go dc_387_223 rfl ?_
  refine Bod.get dc_387_224 fr_387_531 (mk_thing ag (by first | exact hz1 | (simp only [rIS, rJS, rAS, rLS, rVS, rQS, rS_hold]; exact hz1))) rfl ?_
  refine Bod.eqI (nI fd0) (by first | assumption | rfl | exact congrArg nI (by omega) | (simp (disch := omega) only [rIn, rIe, rA, rIA, rLA, rJA, rVI, rQI, rVA, rQA, upd_at,  rAI, rLI, rJI, nI_add, pk_sub, kc_0, kc_1, kc_2, kc_3, kc_4, kc_5, reduceIte, Nat.reduceEqDiff, Nat.add_zero, rI_hold, rI_hold, rL_hold, hfd0]; done)) ?_
  refine Bod.ic 4 (by decide) dc_387_227 ?_
  refine Bod.icT dc_387_228 rfl (k2_ne_T (k_ne fd0 4 rfl rfl (by omega) (by omega) (by omega))) ?_
  refine Bod.go dc_387_237 rfl ?_
  refine Bod.get dc_387_238 fr_387_531 (mk_thing ag (by first | exact hz1 | (simp only [rIS, rJS, rAS, rLS, rVS, rQS, rS_hold]; exact hz1))) rfl ?_
  refine Bod.eqI (nI fd0) (by first | assumption | rfl | exact congrArg nI (by omega) | (simp (disch := omega) only [rIn, rIe, rA, rIA, rLA, rJA, rVI, rQI, rVA, rQA, upd_at,  rAI, rLI, rJI, nI_add, pk_sub, kc_0, kc_1, kc_2, kc_3, kc_4, kc_5, reduceIte, Nat.reduceEqDiff, Nat.add_zero, rI_hold, rI_hold, rL_hold, hfd0]; done)) ?_
  refine Bod.ic 5 (by decide) dc_387_241 ?_
  refine Bod.icF dc_387_242 rfl (k2_ne_F (k_eq fd0 5 rfl rfl (by omega))) ?_
  refine Bod.ldcW dc_387_245 cs_387_844 ?_
  refine Bod.go dc_387_248 rfl ?_
  refine Bod.virt (r := []) dc_387_254 kr_387_821 ⟨Or.inl rfl, ow_384, cl_14⟩ (by rw [np_384]; rfl) (by rw [np_384]; rfl) (ob_of (mk_61 _)) (Nat.le_of_ble_eq_true rfl) (c1  ) ?_
  show Bod _ _ _ _ [] _ _ _
  refine Bod.go dc_387_257 rfl ?_
  refine Bod.ifF dc_387_258 rfl (k1_ne_F (k_eq 0 0 rfl rfl (by omega))) ?_
  refine Bod.go dc_387_261 rfl ?_
  refine Bod.bip 32 (by decide) dc_387_262 ?_
  refine Bod.virt (r := []) dc_387_264 kr_387_818 ⟨Or.inl rfl, ow_382, cl_14⟩ (by rw [np_382]; rfl) (by rw [np_382]; rfl) (ob_of (mk_61 _)) (Nat.le_of_ble_eq_true rfl) (c2  ) ?_
  show Bod _ _ _ _ [] _ _ _
  refine Bod.go dc_387_267 rfl ?_
  refine Bod.get dc_387_268 fr_387_531 (mk_thing ag (by first | exact hz2 | (simp only [rIS, rJS, rAS, rLS, rVS, rQS, rS_hold]; exact hz2))) rfl ?_
  refine Bod.eqI (nI fd01) (by first | assumption | (simp (disch := omega) only [rIn, rIe, rA, rIA, rLA, rJA, rVI, rQI, rVA, rQA, upd_at,  rAI, rLI, rJI, nI_add, pk_sub, kc_0, kc_1, kc_2, kc_3, kc_4, kc_5, reduceIte, Nat.reduceEqDiff, Nat.add_zero, rI_hold, rI_hold, rL_hold, hfd0, hfd01]; done) | (simp (disch := omega) only [rIn, rIe, rA, rIA, rLA, rJA, rVI, rQI, rVA, rQA, upd_at,  rAI, rLI, rJI, nI_add, pk_sub, kc_0, kc_1, kc_2, kc_3, kc_4, kc_5, reduceIte, Nat.reduceEqDiff, Nat.add_zero, rI_hold, rI_hold, rL_hold, hfd0, hfd01]; exact congrArg nI (by omega))) ?_
  refine Bod.ic 5 (by decide) dc_387_271 ?_
  refine Bod.icT dc_387_272 rfl (k2_eq_T (k_eq fd01 5 rfl rfl (by omega))) ?_
  refine Bod.go dc_387_284 rfl ?_
  refine Bod.get dc_387_285 fr_387_485 (mk_61 _) rfl ?_
  refine Bod.go dc_387_288 rfl ?_
  refine Bod.get dc_387_289 fr_387_472 (mk_thing ag (by first | exact hz2 | (simp only [rIS, rJS, rAS, rLS, rVS, rQS, rS_hold]; exact hz2))) rfl ?_
  refine Bod.eqI (nI fd11) (by first | assumption | (simp (disch := omega) only [rIn, rIe, rA, rIA, rLA, rJA, rVI, rQI, rVA, rQA, upd_at,  rAI, rLI, rJI, nI_add, pk_sub, kc_0, kc_1, kc_2, kc_3, kc_4, kc_5, reduceIte, Nat.reduceEqDiff, Nat.add_zero, rI_hold, rI_hold, rL_hold, hfd0, hfd01, hfd11]; done) | (simp (disch := omega) only [rIn, rIe, rA, rIA, rLA, rJA, rVI, rQI, rVA, rQA, upd_at,  rAI, rLI, rJI, nI_add, pk_sub, kc_0, kc_1, kc_2, kc_3, kc_4, kc_5, reduceIte, Nat.reduceEqDiff, Nat.add_zero, rI_hold, rI_hold, rL_hold, hfd0, hfd01, hfd11]; exact congrArg nI (by omega))) ?_
  refine Bod.aaldR (N := 1500) (b := g) fd11 rfl (by omega) (by omega) (by first | exact hq4 | (simp only [rIQ, rJQ, rAQ, rLQ, rVQ, rQ_holdE]; exact hq4)) dc_387_292 (mk_86 _) ht_5 ?_
  refine Bod.get dc_387_293 fr_387_694 (mk_thing ag (by first | exact hz2 | (simp only [rIS, rJS, rAS, rLS, rVS, rQS, rS_hold]; exact hz2))) rfl ?_
  refine Bod.eqI (nI fd10) (by first | assumption | (simp (disch := omega) only [rIn, rIe, rA, rIA, rLA, rJA, rVI, rQI, rVA, rQA, upd_at,  rAI, rLI, rJI, nI_add, pk_sub, kc_0, kc_1, kc_2, kc_3, kc_4, kc_5, reduceIte, Nat.reduceEqDiff, Nat.add_zero, rI_hold, rI_hold, rL_hold, hfd0, hfd01, hfd11, hfd10]; done) | (simp (disch := omega) only [rIn, rIe, rA, rIA, rLA, rJA, rVI, rQI, rVA, rQA, upd_at,  rAI, rLI, rJI, nI_add, pk_sub, kc_0, kc_1, kc_2, kc_3, kc_4, kc_5, reduceIte, Nat.reduceEqDiff, Nat.add_zero, rI_hold, rI_hold, rL_hold, hfd0, hfd01, hfd11, hfd10]; exact congrArg nI (by omega))) ?_
  refine Bod.go dc_387_296 rfl ?_
  refine Bod.istn dc_387_303 (by rw [ml_387]; exact Nat.le_of_ble_eq_true rfl) ?_
  refine Bod.ic 0 (by decide) dc_387_304 ?_
  refine Bod.ist dc_387_305 (by rw [ml_387]; exact Nat.le_of_ble_eq_true rfl) ?_
  exact hB _ (by first | rfl | exact (by repeat (first | exact rfl | exact sm_get_p1 | exact sm_get_p2e | refine sm_get_p1m (by decide) (by decide) ?_ | refine sm_get_p1n (by decide) rfl ?_ | refine sm_get_p2n (by decide) (by decide) rfl ?_ | refine sm_get_p2m (by decide) (by decide) (by decide) ?_))) (by first | rfl | exact (by repeat (first | exact rfl | exact sm_get_p1 | exact sm_get_p2e | refine sm_get_p1m (by decide) (by decide) ?_ | refine sm_get_p1n (by decide) rfl ?_ | refine sm_get_p2n (by decide) (by decide) rfl ?_ | refine sm_get_p2m (by decide) (by decide) (by decide) ?_))) (by first | rfl | exact (by repeat (first | exact rfl | exact sm_get_p1 | exact sm_get_p2e | refine sm_get_p1m (by decide) (by decide) ?_ | refine sm_get_p1n (by decide) rfl ?_ | refine sm_get_p2n (by decide) (by decide) rfl ?_ | refine sm_get_p2m (by decide) (by decide) (by decide) ?_)))
theorem rSt0_5 {d : Nat} {S Sf : cS} {v : Option Value} {g : Nat} {zg : Nat} {fd0 : Nat} {S1 : cS} {S2 : cS} {fd01 : Nat} {fd10 : Nat} (ag : 108 ≤ g) (hz1 : (sS S)[g - 108]? = some (13, zg)) (hfd0 : sI S (100 * g + 0) = nI fd0) (mfd0 : fd0 < 2 ^ 20) (b1 : fd0 ≠ 1) (b2 : fd0 ≠ 2) (b3 : fd0 ≠ 3) (b4 : fd0 ≠ 4) (b5 : fd0 = 5) (c1 : Ans (d + 8) 384 [.ref 61, .retAddr (2 * 49)] S none S1) (c2 : Ans (d + 8) 382 [.ref 61, .int (nI 32)] S1 none S2) (hz2 : (sS S2)[g - 108]? = some (13, zg)) (hfd01 : sI S2 (100 * g + 0) = nI fd01) (mfd01 : fd01 < 2 ^ 20) (b6 : fd01 ≠ 5) (b7 : fd01 ≠ 6) (hfd10 : sI S2 (100 * g + 10) = nI fd10) (mfd10 : fd10 < 2 ^ 20) (hB : ∀ lv1 : sm_L, sm_get lv1 0 = some (.ref 61) → sm_get lv1 3 = some (.int (nI fd10)) → sm_get lv1 4 = some (.int (nI 0)) → Bod (d + 8) 387 307 lv1 [] (S2) v Sf) : Bod (d + 8) 387 0 [(0, .ref 61), (1, .ref g), (2, .int (nI 0))] [] S v Sf := by
  refine Bod.go dc_387_0 rfl ?_
  refine Bod.ifF dc_387_1 rfl (k1_ne_F (k_eq 0 0 rfl rfl (by omega))) ?_
  refine Bod.go dc_387_4 rfl ?_
  refine Bod.get dc_387_5 fr_387_531 (mk_thing ag (by first | exact hz1 | (simp only [rIS, rJS, rAS, rLS, rVS, rQS, rS_hold]; exact hz1))) rfl ?_
  refine Bod.eqI (nI fd0) (by first | assumption | rfl | exact congrArg nI (by omega) | (simp (disch := omega) only [rIn, rIe, rA, rIA, rLA, rJA, rVI, rQI, rVA, rQA, upd_at,  rAI, rLI, rJI, nI_add, pk_sub, kc_0, kc_1, kc_2, kc_3, kc_4, kc_5, reduceIte, Nat.reduceEqDiff, Nat.add_zero, rI_hold, rI_hold, rL_hold, hfd0]; done)) ?_
  refine Bod.ic 1 (by decide) dc_387_8 ?_
  refine Bod.icT dc_387_9 rfl (k2_ne_T (k_ne fd0 1 rfl rfl (by omega) (by omega) (by omega))) ?_
  refine Bod.go dc_387_75 rfl ?_
  refine Bod.ifF dc_387_76 rfl (k1_ne_F (k_eq 0 0 rfl rfl (by omega))) ?_
  refine Bod.go dc_387_79 rfl ?_
  refine Bod.get dc_387_80 fr_387_531 (mk_thing ag (by first | exact hz1 | (simp only [rIS, rJS, rAS, rLS, rVS, rQS, rS_hold]; exact hz1))) rfl ?_
  refine Bod.eqI (nI fd0) (by first | assumption | rfl | exact congrArg nI (by omega) | (simp (disch := omega) only [rIn, rIe, rA, rIA, rLA, rJA, rVI, rQI, rVA, rQA, upd_at,  rAI, rLI, rJI, nI_add, pk_sub, kc_0, kc_1, kc_2, kc_3, kc_4, kc_5, reduceIte, Nat.reduceEqDiff, Nat.add_zero, rI_hold, rI_hold, rL_hold, hfd0]; done)) ?_
  refine Bod.ic 2 (by decide) dc_387_83 ?_
  refine Bod.icT dc_387_84 rfl (k2_ne_T (k_ne fd0 2 rfl rfl (by omega) (by omega) (by omega))) ?_
  refine Bod.go dc_387_180 rfl ?_
  refine Bod.go dc_387_181 rfl ?_
  refine Bod.get dc_387_182 fr_387_531 (mk_thing ag (by first | exact hz1 | (simp only [rIS, rJS, rAS, rLS, rVS, rQS, rS_hold]; exact hz1))) rfl ?_
  refine Bod.eqI (nI fd0) (by first | assumption | rfl | exact congrArg nI (by omega) | (simp (disch := omega) only [rIn, rIe, rA, rIA, rLA, rJA, rVI, rQI, rVA, rQA, upd_at,  rAI, rLI, rJI, nI_add, pk_sub, kc_0, kc_1, kc_2, kc_3, kc_4, kc_5, reduceIte, Nat.reduceEqDiff, Nat.add_zero, rI_hold, rI_hold, rL_hold, hfd0]; done)) ?_
  refine Bod.ic 1 (by decide) dc_387_185 ?_
  refine Bod.icT dc_387_186 rfl (k2_ne_T (k_ne fd0 1 rfl rfl (by omega) (by omega) (by omega))) ?_
  refine Bod.go dc_387_195 rfl ?_
  refine Bod.get dc_387_196 fr_387_531 (mk_thing ag (by first | exact hz1 | (simp only [rIS, rJS, rAS, rLS, rVS, rQS, rS_hold]; exact hz1))) rfl ?_
  refine Bod.eqI (nI fd0) (by first | assumption | rfl | exact congrArg nI (by omega) | (simp (disch := omega) only [rIn, rIe, rA, rIA, rLA, rJA, rVI, rQI, rVA, rQA, upd_at,  rAI, rLI, rJI, nI_add, pk_sub, kc_0, kc_1, kc_2, kc_3, kc_4, kc_5, reduceIte, Nat.reduceEqDiff, Nat.add_zero, rI_hold, rI_hold, rL_hold, hfd0]; done)) ?_
  refine Bod.ic 2 (by decide) dc_387_199 ?_
  refine Bod.icT dc_387_200 rfl (k2_ne_T (k_ne fd0 2 rfl rfl (by omega) (by omega) (by omega))) ?_
  refine Bod.go dc_387_209 rfl ?_
  refine Bod.get dc_387_210 fr_387_531 (mk_thing ag (by first | exact hz1 | (simp only [rIS, rJS, rAS, rLS, rVS, rQS, rS_hold]; exact hz1))) rfl ?_
  refine Bod.eqI (nI fd0) (by first | assumption | rfl | exact congrArg nI (by omega) | (simp (disch := omega) only [rIn, rIe, rA, rIA, rLA, rJA, rVI, rQI, rVA, rQA, upd_at,  rAI, rLI, rJI, nI_add, pk_sub, kc_0, kc_1, kc_2, kc_3, kc_4, kc_5, reduceIte, Nat.reduceEqDiff, Nat.add_zero, rI_hold, rI_hold, rL_hold, hfd0]; done)) ?_
  refine Bod.ic 3 (by decide) dc_387_213 ?_
  refine Bod.icT dc_387_214 rfl (k2_ne_T (k_ne fd0 3 rfl rfl (by omega) (by omega) (by omega))) ?_
  refine Bod.go dc_387_223 rfl ?_
  refine Bod.get dc_387_224 fr_387_531 (mk_thing ag (by first | exact hz1 | (simp only [rIS, rJS, rAS, rLS, rVS, rQS, rS_hold]; exact hz1))) rfl ?_
  refine Bod.eqI (nI fd0) (by first | assumption | rfl | exact congrArg nI (by omega) | (simp (disch := omega) only [rIn, rIe, rA, rIA, rLA, rJA, rVI, rQI, rVA, rQA, upd_at,  rAI, rLI, rJI, nI_add, pk_sub, kc_0, kc_1, kc_2, kc_3, kc_4, kc_5, reduceIte, Nat.reduceEqDiff, Nat.add_zero, rI_hold, rI_hold, rL_hold, hfd0]; done)) ?_
  refine Bod.ic 4 (by decide) dc_387_227 ?_
  refine Bod.icT dc_387_228 rfl (k2_ne_T (k_ne fd0 4 rfl rfl (by omega) (by omega) (by omega))) ?_
  refine Bod.go dc_387_237 rfl ?_
  refine Bod.get dc_387_238 fr_387_531 (mk_thing ag (by first | exact hz1 | (simp only [rIS, rJS, rAS, rLS, rVS, rQS, rS_hold]; exact hz1))) rfl ?_
  refine Bod.eqI (nI fd0) (by first | assumption | rfl | exact congrArg nI (by omega) | (simp (disch := omega) only [rIn, rIe, rA, rIA, rLA, rJA, rVI, rQI, rVA, rQA, upd_at,  rAI, rLI, rJI, nI_add, pk_sub, kc_0, kc_1, kc_2, kc_3, kc_4, kc_5, reduceIte, Nat.reduceEqDiff, Nat.add_zero, rI_hold, rI_hold, rL_hold, hfd0]; done)) ?_
  refine Bod.ic 5 (by decide) dc_387_241 ?_
  refine Bod.icF dc_387_242 rfl (k2_ne_F (k_eq fd0 5 rfl rfl (by omega))) ?_
  refine Bod.ldcW dc_387_245 cs_387_844 ?_
  refine Bod.go dc_387_248 rfl ?_
  refine Bod.virt (r := []) dc_387_254 kr_387_821 ⟨Or.inl rfl, ow_384, cl_14⟩ (by rw [np_384]; rfl) (by rw [np_384]; rfl) (ob_of (mk_61 _)) (Nat.le_of_ble_eq_true rfl) (c1  ) ?_
  show Bod _ _ _ _ [] _ _ _
  refine Bod.go dc_387_257 rfl ?_
  refine Bod.ifF dc_387_258 rfl (k1_ne_F (k_eq 0 0 rfl rfl (by omega))) ?_
  refine Bod.go dc_387_261 rfl ?_
  refine Bod.bip 32 (by decide) dc_387_262 ?_
  refine Bod.virt (r := []) dc_387_264 kr_387_818 ⟨Or.inl rfl, ow_382, cl_14⟩ (by rw [np_382]; rfl) (by rw [np_382]; rfl) (ob_of (mk_61 _)) (Nat.le_of_ble_eq_true rfl) (c2  ) ?_
  show Bod _ _ _ _ [] _ _ _
  refine Bod.go dc_387_267 rfl ?_
  refine Bod.get dc_387_268 fr_387_531 (mk_thing ag (by first | exact hz2 | (simp only [rIS, rJS, rAS, rLS, rVS, rQS, rS_hold]; exact hz2))) rfl ?_
  refine Bod.eqI (nI fd01) (by first | assumption | (simp (disch := omega) only [rIn, rIe, rA, rIA, rLA, rJA, rVI, rQI, rVA, rQA, upd_at,  rAI, rLI, rJI, nI_add, pk_sub, kc_0, kc_1, kc_2, kc_3, kc_4, kc_5, reduceIte, Nat.reduceEqDiff, Nat.add_zero, rI_hold, rI_hold, rL_hold, hfd0, hfd01]; done) | (simp (disch := omega) only [rIn, rIe, rA, rIA, rLA, rJA, rVI, rQI, rVA, rQA, upd_at,  rAI, rLI, rJI, nI_add, pk_sub, kc_0, kc_1, kc_2, kc_3, kc_4, kc_5, reduceIte, Nat.reduceEqDiff, Nat.add_zero, rI_hold, rI_hold, rL_hold, hfd0, hfd01]; exact congrArg nI (by omega))) ?_
  refine Bod.ic 5 (by decide) dc_387_271 ?_
  refine Bod.icF dc_387_272 rfl (k2_eq_F (k_ne fd01 5 rfl rfl (by omega) (by omega) (by omega))) ?_
  refine Bod.go dc_387_275 rfl ?_
  refine Bod.get dc_387_276 fr_387_531 (mk_thing ag (by first | exact hz2 | (simp only [rIS, rJS, rAS, rLS, rVS, rQS, rS_hold]; exact hz2))) rfl ?_
  refine Bod.eqI (nI fd01) (by first | assumption | (simp (disch := omega) only [rIn, rIe, rA, rIA, rLA, rJA, rVI, rQI, rVA, rQA, upd_at,  rAI, rLI, rJI, nI_add, pk_sub, kc_0, kc_1, kc_2, kc_3, kc_4, kc_5, reduceIte, Nat.reduceEqDiff, Nat.add_zero, rI_hold, rI_hold, rL_hold, hfd0, hfd01]; done) | (simp (disch := omega) only [rIn, rIe, rA, rIA, rLA, rJA, rVI, rQI, rVA, rQA, upd_at,  rAI, rLI, rJI, nI_add, pk_sub, kc_0, kc_1, kc_2, kc_3, kc_4, kc_5, reduceIte, Nat.reduceEqDiff, Nat.add_zero, rI_hold, rI_hold, rL_hold, hfd0, hfd01]; exact congrArg nI (by omega))) ?_
  refine Bod.bip 6 (by decide) dc_387_279 ?_
  refine Bod.icT dc_387_281 rfl (k2_ne_T (k_ne fd01 6 rfl rfl (by omega) (by omega) (by omega))) ?_
  refine Bod.go dc_387_299 rfl ?_
  refine Bod.get dc_387_300 fr_387_694 (mk_thing ag (by first | exact hz2 | (simp only [rIS, rJS, rAS, rLS, rVS, rQS, rS_hold]; exact hz2))) rfl ?_
  refine Bod.eqI (nI fd10) (by first | assumption | (simp (disch := omega) only [rIn, rIe, rA, rIA, rLA, rJA, rVI, rQI, rVA, rQA, upd_at,  rAI, rLI, rJI, nI_add, pk_sub, kc_0, kc_1, kc_2, kc_3, kc_4, kc_5, reduceIte, Nat.reduceEqDiff, Nat.add_zero, rI_hold, rI_hold, rL_hold, hfd0, hfd01, hfd10]; done) | (simp (disch := omega) only [rIn, rIe, rA, rIA, rLA, rJA, rVI, rQI, rVA, rQA, upd_at,  rAI, rLI, rJI, nI_add, pk_sub, kc_0, kc_1, kc_2, kc_3, kc_4, kc_5, reduceIte, Nat.reduceEqDiff, Nat.add_zero, rI_hold, rI_hold, rL_hold, hfd0, hfd01, hfd10]; exact congrArg nI (by omega))) ?_
  refine Bod.istn dc_387_303 (by rw [ml_387]; exact Nat.le_of_ble_eq_true rfl) ?_
  refine Bod.ic 0 (by decide) dc_387_304 ?_
  refine Bod.ist dc_387_305 (by rw [ml_387]; exact Nat.le_of_ble_eq_true rfl) ?_
  exact hB _ (by first | rfl | exact (by repeat (first | exact rfl | exact sm_get_p1 | exact sm_get_p2e | refine sm_get_p1m (by decide) (by decide) ?_ | refine sm_get_p1n (by decide) rfl ?_ | refine sm_get_p2n (by decide) (by decide) rfl ?_ | refine sm_get_p2m (by decide) (by decide) (by decide) ?_))) (by first | rfl | exact (by repeat (first | exact rfl | exact sm_get_p1 | exact sm_get_p2e | refine sm_get_p1m (by decide) (by decide) ?_ | refine sm_get_p1n (by decide) rfl ?_ | refine sm_get_p2n (by decide) (by decide) rfl ?_ | refine sm_get_p2m (by decide) (by decide) (by decide) ?_))) (by first | rfl | exact (by repeat (first | exact rfl | exact sm_get_p1 | exact sm_get_p2e | refine sm_get_p1m (by decide) (by decide) ?_ | refine sm_get_p1n (by decide) rfl ?_ | refine sm_get_p2n (by decide) (by decide) rfl ?_ | refine sm_get_p2m (by decide) (by decide) (by decide) ?_)))
theorem rSt0_6 {d : Nat} {S Sf : cS} {v : Option Value} {g : Nat} {zg : Nat} {fd0 : Nat} {S1 : cS} {S2 : cS} {fd01 : Nat} {fd11 : Nat} {g : Nat} {zg : Nat} {fd10 : Nat} (ag : 108 ≤ g) (hz1 : (sS S)[g - 108]? = some (13, zg)) (hfd0 : sI S (100 * g + 0) = nI fd0) (mfd0 : fd0 < 2 ^ 20) (b1 : fd0 ≠ 1) (b2 : fd0 ≠ 2) (b3 : fd0 ≠ 3) (b4 : fd0 ≠ 4) (b5 : fd0 = 5) (c1 : Ans (d + 8) 384 [.ref 61, .retAddr (2 * 49)] S none S1) (c2 : Ans (d + 8) 382 [.ref 61, .int (nI 32)] S1 none S2) (hz2 : (sS S2)[g - 108]? = some (13, zg)) (hfd01 : sI S2 (100 * g + 0) = nI fd01) (mfd01 : fd01 < 2 ^ 20) (b6 : fd01 ≠ 5) (b7 : fd01 = 6) (hfd11 : sI S2 (100 * g + 11) = nI fd11) (mfd11 : fd11 < 2 ^ 20) (b8 : fd11 < 1500) (ag : 108 ≤ g) (hq4 : sQ S2 86 fd11 = some g) (hfd10 : sI S2 (100 * g + 10) = nI fd10) (mfd10 : fd10 < 2 ^ 20) (hB : ∀ lv1 : sm_L, sm_get lv1 0 = some (.ref 61) → sm_get lv1 3 = some (.int (nI fd10)) → sm_get lv1 4 = some (.int (nI 0)) → Bod (d + 8) 387 307 lv1 [] (S2) v Sf) : Bod (d + 8) 387 0 [(0, .ref 61), (1, .ref g), (2, .int (nI 0))] [] S v Sf := by
  refine Bod.go dc_387_0 rfl ?_
  refine Bod.ifF dc_387_1 rfl (k1_ne_F (k_eq 0 0 rfl rfl (by omega))) ?_
  refine Bod.go dc_387_4 rfl ?_
  refine Bod.get dc_387_5 fr_387_531 (mk_thing ag (by first | exact hz1 | (simp only [rIS, rJS, rAS, rLS, rVS, rQS, rS_hold]; exact hz1))) rfl ?_
  refine Bod.eqI (nI fd0) (by first | assumption | rfl | exact congrArg nI (by omega) | (simp (disch := omega) only [rIn, rIe, rA, rIA, rLA, rJA, rVI, rQI, rVA, rQA, upd_at,  rAI, rLI, rJI, nI_add, pk_sub, kc_0, kc_1, kc_2, kc_3, kc_4, kc_5, reduceIte, Nat.reduceEqDiff, Nat.add_zero, rI_hold, rI_hold, rL_hold, hfd0]; done)) ?_
  refine Bod.ic 1 (by decide) dc_387_8 ?_
  refine Bod.icT dc_387_9 rfl (k2_ne_T (k_ne fd0 1 rfl rfl (by omega) (by omega) (by omega))) ?_
  refine Bod.go dc_387_75 rfl ?_
  refine Bod.ifF dc_387_76 rfl (k1_ne_F (k_eq 0 0 rfl rfl (by omega))) ?_
  refine Bod.go dc_387_79 rfl ?_
  refine Bod.get dc_387_80 fr_387_531 (mk_thing ag (by first | exact hz1 | (simp only [rIS, rJS, rAS, rLS, rVS, rQS, rS_hold]; exact hz1))) rfl ?_
  refine Bod.eqI (nI fd0) (by first | assumption | rfl | exact congrArg nI (by omega) | (simp (disch := omega) only [rIn, rIe, rA, rIA, rLA, rJA, rVI, rQI, rVA, rQA, upd_at,  rAI, rLI, rJI, nI_add, pk_sub, kc_0, kc_1, kc_2, kc_3, kc_4, kc_5, reduceIte, Nat.reduceEqDiff, Nat.add_zero, rI_hold, rI_hold, rL_hold, hfd0]; done)) ?_
  refine Bod.ic 2 (by decide) dc_387_83 ?_
  refine Bod.icT dc_387_84 rfl (k2_ne_T (k_ne fd0 2 rfl rfl (by omega) (by omega) (by omega))) ?_
  refine Bod.go dc_387_180 rfl ?_
  refine Bod.go dc_387_181 rfl ?_
  refine Bod.get dc_387_182 fr_387_531 (mk_thing ag (by first | exact hz1 | (simp only [rIS, rJS, rAS, rLS, rVS, rQS, rS_hold]; exact hz1))) rfl ?_
  refine Bod.eqI (nI fd0) (by first | assumption | rfl | exact congrArg nI (by omega) | (simp (disch := omega) only [rIn, rIe, rA, rIA, rLA, rJA, rVI, rQI, rVA, rQA, upd_at,  rAI, rLI, rJI, nI_add, pk_sub, kc_0, kc_1, kc_2, kc_3, kc_4, kc_5, reduceIte, Nat.reduceEqDiff, Nat.add_zero, rI_hold, rI_hold, rL_hold, hfd0]; done)) ?_
  refine Bod.ic 1 (by decide) dc_387_185 ?_
  refine Bod.icT dc_387_186 rfl (k2_ne_T (k_ne fd0 1 rfl rfl (by omega) (by omega) (by omega))) ?_
  refine Bod.go dc_387_195 rfl ?_
  refine Bod.get dc_387_196 fr_387_531 (mk_thing ag (by first | exact hz1 | (simp only [rIS, rJS, rAS, rLS, rVS, rQS, rS_hold]; exact hz1))) rfl ?_
  refine Bod.eqI (nI fd0) (by first | assumption | rfl | exact congrArg nI (by omega) | (simp (disch := omega) only [rIn, rIe, rA, rIA, rLA, rJA, rVI, rQI, rVA, rQA, upd_at,  rAI, rLI, rJI, nI_add, pk_sub, kc_0, kc_1, kc_2, kc_3, kc_4, kc_5, reduceIte, Nat.reduceEqDiff, Nat.add_zero, rI_hold, rI_hold, rL_hold, hfd0]; done)) ?_
  refine Bod.ic 2 (by decide) dc_387_199 ?_
  refine Bod.icT dc_387_200 rfl (k2_ne_T (k_ne fd0 2 rfl rfl (by omega) (by omega) (by omega))) ?_
  refine Bod.go dc_387_209 rfl ?_
  refine Bod.get dc_387_210 fr_387_531 (mk_thing ag (by first | exact hz1 | (simp only [rIS, rJS, rAS, rLS, rVS, rQS, rS_hold]; exact hz1))) rfl ?_
  refine Bod.eqI (nI fd0) (by first | assumption | rfl | exact congrArg nI (by omega) | (simp (disch := omega) only [rIn, rIe, rA, rIA, rLA, rJA, rVI, rQI, rVA, rQA, upd_at,  rAI, rLI, rJI, nI_add, pk_sub, kc_0, kc_1, kc_2, kc_3, kc_4, kc_5, reduceIte, Nat.reduceEqDiff, Nat.add_zero, rI_hold, rI_hold, rL_hold, hfd0]; done)) ?_
  refine Bod.ic 3 (by decide) dc_387_213 ?_
  refine Bod.icT dc_387_214 rfl (k2_ne_T (k_ne fd0 3 rfl rfl (by omega) (by omega) (by omega))) ?_
  refine Bod.go dc_387_223 rfl ?_
  refine Bod.get dc_387_224 fr_387_531 (mk_thing ag (by first | exact hz1 | (simp only [rIS, rJS, rAS, rLS, rVS, rQS, rS_hold]; exact hz1))) rfl ?_
  refine Bod.eqI (nI fd0) (by first | assumption | rfl | exact congrArg nI (by omega) | (simp (disch := omega) only [rIn, rIe, rA, rIA, rLA, rJA, rVI, rQI, rVA, rQA, upd_at,  rAI, rLI, rJI, nI_add, pk_sub, kc_0, kc_1, kc_2, kc_3, kc_4, kc_5, reduceIte, Nat.reduceEqDiff, Nat.add_zero, rI_hold, rI_hold, rL_hold, hfd0]; done)) ?_
  refine Bod.ic 4 (by decide) dc_387_227 ?_
  refine Bod.icT dc_387_228 rfl (k2_ne_T (k_ne fd0 4 rfl rfl (by omega) (by omega) (by omega))) ?_
  refine Bod.go dc_387_237 rfl ?_
  refine Bod.get dc_387_238 fr_387_531 (mk_thing ag (by first | exact hz1 | (simp only [rIS, rJS, rAS, rLS, rVS, rQS, rS_hold]; exact hz1))) rfl ?_
  refine Bod.eqI (nI fd0) (by first | assumption | rfl | exact congrArg nI (by omega) | (simp (disch := omega) only [rIn, rIe, rA, rIA, rLA, rJA, rVI, rQI, rVA, rQA, upd_at,  rAI, rLI, rJI, nI_add, pk_sub, kc_0, kc_1, kc_2, kc_3, kc_4, kc_5, reduceIte, Nat.reduceEqDiff, Nat.add_zero, rI_hold, rI_hold, rL_hold, hfd0]; done)) ?_
  refine Bod.ic 5 (by decide) dc_387_241 ?_
  refine Bod.icF dc_387_242 rfl (k2_ne_F (k_eq fd0 5 rfl rfl (by omega))) ?_
  refine Bod.ldcW dc_387_245 cs_387_844 ?_
  refine Bod.go dc_387_248 rfl ?_
  refine Bod.virt (r := []) dc_387_254 kr_387_821 ⟨Or.inl rfl, ow_384, cl_14⟩ (by rw [np_384]; rfl) (by rw [np_384]; rfl) (ob_of (mk_61 _)) (Nat.le_of_ble_eq_true rfl) (c1  ) ?_
  show Bod _ _ _ _ [] _ _ _
  refine Bod.go dc_387_257 rfl ?_
  refine Bod.ifF dc_387_258 rfl (k1_ne_F (k_eq 0 0 rfl rfl (by omega))) ?_
  refine Bod.go dc_387_261 rfl ?_
  refine Bod.bip 32 (by decide) dc_387_262 ?_
  refine Bod.virt (r := []) dc_387_264 kr_387_818 ⟨Or.inl rfl, ow_382, cl_14⟩ (by rw [np_382]; rfl) (by rw [np_382]; rfl) (ob_of (mk_61 _)) (Nat.le_of_ble_eq_true rfl) (c2  ) ?_
  show Bod _ _ _ _ [] _ _ _
  refine Bod.go dc_387_267 rfl ?_
  refine Bod.get dc_387_268 fr_387_531 (mk_thing ag (by first | exact hz2 | (simp only [rIS, rJS, rAS, rLS, rVS, rQS, rS_hold]; exact hz2))) rfl ?_
  refine Bod.eqI (nI fd01) (by first | assumption | (simp (disch := omega) only [rIn, rIe, rA, rIA, rLA, rJA, rVI, rQI, rVA, rQA, upd_at,  rAI, rLI, rJI, nI_add, pk_sub, kc_0, kc_1, kc_2, kc_3, kc_4, kc_5, reduceIte, Nat.reduceEqDiff, Nat.add_zero, rI_hold, rI_hold, rL_hold, hfd0, hfd01]; done) | (simp (disch := omega) only [rIn, rIe, rA, rIA, rLA, rJA, rVI, rQI, rVA, rQA, upd_at,  rAI, rLI, rJI, nI_add, pk_sub, kc_0, kc_1, kc_2, kc_3, kc_4, kc_5, reduceIte, Nat.reduceEqDiff, Nat.add_zero, rI_hold, rI_hold, rL_hold, hfd0, hfd01]; exact congrArg nI (by omega))) ?_
  refine Bod.ic 5 (by decide) dc_387_271 ?_
  refine Bod.icF dc_387_272 rfl (k2_eq_F (k_ne fd01 5 rfl rfl (by omega) (by omega) (by omega))) ?_
  refine Bod.go dc_387_275 rfl ?_
  refine Bod.get dc_387_276 fr_387_531 (mk_thing ag (by first | exact hz2 | (simp only [rIS, rJS, rAS, rLS, rVS, rQS, rS_hold]; exact hz2))) rfl ?_
  refine Bod.eqI (nI fd01) (by first | assumption | (simp (disch := omega) only [rIn, rIe, rA, rIA, rLA, rJA, rVI, rQI, rVA, rQA, upd_at,  rAI, rLI, rJI, nI_add, pk_sub, kc_0, kc_1, kc_2, kc_3, kc_4, kc_5, reduceIte, Nat.reduceEqDiff, Nat.add_zero, rI_hold, rI_hold, rL_hold, hfd0, hfd01]; done) | (simp (disch := omega) only [rIn, rIe, rA, rIA, rLA, rJA, rVI, rQI, rVA, rQA, upd_at,  rAI, rLI, rJI, nI_add, pk_sub, kc_0, kc_1, kc_2, kc_3, kc_4, kc_5, reduceIte, Nat.reduceEqDiff, Nat.add_zero, rI_hold, rI_hold, rL_hold, hfd0, hfd01]; exact congrArg nI (by omega))) ?_
  refine Bod.bip 6 (by decide) dc_387_279 ?_
  refine Bod.icF dc_387_281 rfl (k2_ne_F (k_eq fd01 6 rfl rfl (by omega))) ?_
  refine Bod.go dc_387_284 rfl ?_
  refine Bod.get dc_387_285 fr_387_485 (mk_61 _) rfl ?_
  refine Bod.go dc_387_288 rfl ?_
  refine Bod.get dc_387_289 fr_387_472 (mk_thing ag (by first | exact hz2 | (simp only [rIS, rJS, rAS, rLS, rVS, rQS, rS_hold]; exact hz2))) rfl ?_
  refine Bod.eqI (nI fd11) (by first | assumption | (simp (disch := omega) only [rIn, rIe, rA, rIA, rLA, rJA, rVI, rQI, rVA, rQA, upd_at,  rAI, rLI, rJI, nI_add, pk_sub, kc_0, kc_1, kc_2, kc_3, kc_4, kc_5, reduceIte, Nat.reduceEqDiff, Nat.add_zero, rI_hold, rI_hold, rL_hold, hfd0, hfd01, hfd11]; done) | (simp (disch := omega) only [rIn, rIe, rA, rIA, rLA, rJA, rVI, rQI, rVA, rQA, upd_at,  rAI, rLI, rJI, nI_add, pk_sub, kc_0, kc_1, kc_2, kc_3, kc_4, kc_5, reduceIte, Nat.reduceEqDiff, Nat.add_zero, rI_hold, rI_hold, rL_hold, hfd0, hfd01, hfd11]; exact congrArg nI (by omega))) ?_
  refine Bod.aaldR (N := 1500) (b := g) fd11 rfl (by omega) (by omega) (by first | exact hq4 | (simp only [rIQ, rJQ, rAQ, rLQ, rVQ, rQ_holdE]; exact hq4)) dc_387_292 (mk_86 _) ht_5 ?_
  refine Bod.get dc_387_293 fr_387_694 (mk_thing ag (by first | exact hz2 | (simp only [rIS, rJS, rAS, rLS, rVS, rQS, rS_hold]; exact hz2))) rfl ?_
  refine Bod.eqI (nI fd10) (by first | assumption | (simp (disch := omega) only [rIn, rIe, rA, rIA, rLA, rJA, rVI, rQI, rVA, rQA, upd_at,  rAI, rLI, rJI, nI_add, pk_sub, kc_0, kc_1, kc_2, kc_3, kc_4, kc_5, reduceIte, Nat.reduceEqDiff, Nat.add_zero, rI_hold, rI_hold, rL_hold, hfd0, hfd01, hfd11, hfd10]; done) | (simp (disch := omega) only [rIn, rIe, rA, rIA, rLA, rJA, rVI, rQI, rVA, rQA, upd_at,  rAI, rLI, rJI, nI_add, pk_sub, kc_0, kc_1, kc_2, kc_3, kc_4, kc_5, reduceIte, Nat.reduceEqDiff, Nat.add_zero, rI_hold, rI_hold, rL_hold, hfd0, hfd01, hfd11, hfd10]; exact congrArg nI (by omega))) ?_
  refine Bod.go dc_387_296 rfl ?_
  refine Bod.istn dc_387_303 (by rw [ml_387]; exact Nat.le_of_ble_eq_true rfl) ?_
  refine Bod.ic 0 (by decide) dc_387_304 ?_
  refine Bod.ist dc_387_305 (by rw [ml_387]; exact Nat.le_of_ble_eq_true rfl) ?_
  exact hB _ (by first | rfl | exact (by repeat (first | exact rfl | exact sm_get_p1 | exact sm_get_p2e | refine sm_get_p1m (by decide) (by decide) ?_ | refine sm_get_p1n (by decide) rfl ?_ | refine sm_get_p2n (by decide) (by decide) rfl ?_ | refine sm_get_p2m (by decide) (by decide) (by decide) ?_))) (by first | rfl | exact (by repeat (first | exact rfl | exact sm_get_p1 | exact sm_get_p2e | refine sm_get_p1m (by decide) (by decide) ?_ | refine sm_get_p1n (by decide) rfl ?_ | refine sm_get_p2n (by decide) (by decide) rfl ?_ | refine sm_get_p2m (by decide) (by decide) (by decide) ?_))) (by first | rfl | exact (by repeat (first | exact rfl | exact sm_get_p1 | exact sm_get_p2e | refine sm_get_p1m (by decide) (by decide) ?_ | refine sm_get_p1n (by decide) rfl ?_ | refine sm_get_p2n (by decide) (by decide) rfl ?_ | refine sm_get_p2m (by decide) (by decide) (by decide) ?_)))
theorem rSt0_7 {d : Nat} {S Sf : cS} {v : Option Value} {g : Nat} {zg : Nat} {fd0 : Nat} {S1 : cS} {S2 : cS} {fd01 : Nat} {fd11 : Nat} {g : Nat} {zg : Nat} {fd10 : Nat} (ag : 108 ≤ g) (hz1 : (sS S)[g - 108]? = some (13, zg)) (hfd0 : sI S (100 * g + 0) = nI fd0) (mfd0 : fd0 < 2 ^ 20) (b1 : fd0 ≠ 1) (b2 : fd0 ≠ 2) (b3 : fd0 ≠ 3) (b4 : fd0 = 4) (c1 : Ans (d + 8) 384 [.ref 61, .retAddr (2 * 48)] S none S1) (c2 : Ans (d + 8) 382 [.ref 61, .int (nI 32)] S1 none S2) (hz2 : (sS S2)[g - 108]? = some (13, zg)) (hfd01 : sI S2 (100 * g + 0) = nI fd01) (mfd01 : fd01 < 2 ^ 20) (b5 : fd01 = 5) (hfd11 : sI S2 (100 * g + 11) = nI fd11) (mfd11 : fd11 < 2 ^ 20) (b6 : fd11 < 1500) (ag : 108 ≤ g) (hq4 : sQ S2 86 fd11 = some g) (hfd10 : sI S2 (100 * g + 10) = nI fd10) (mfd10 : fd10 < 2 ^ 20) (hB : ∀ lv1 : sm_L, sm_get lv1 0 = some (.ref 61) → sm_get lv1 3 = some (.int (nI fd10)) → sm_get lv1 4 = some (.int (nI 0)) → Bod (d + 8) 387 307 lv1 [] (S2) v Sf) : Bod (d + 8) 387 0 [(0, .ref 61), (1, .ref g), (2, .int (nI 0))] [] S v Sf := by
  refine Bod.go dc_387_0 rfl ?_
  refine Bod.ifF dc_387_1 rfl (k1_ne_F (k_eq 0 0 rfl rfl (by omega))) ?_
  refine Bod.go dc_387_4 rfl ?_
  refine Bod.get dc_387_5 fr_387_531 (mk_thing ag (by first | exact hz1 | (simp only [rIS, rJS, rAS, rLS, rVS, rQS, rS_hold]; exact hz1))) rfl ?_
  refine Bod.eqI (nI fd0) (by first | assumption | rfl | exact congrArg nI (by omega) | (simp (disch := omega) only [rIn, rIe, rA, rIA, rLA, rJA, rVI, rQI, rVA, rQA, upd_at,  rAI, rLI, rJI, nI_add, pk_sub, kc_0, kc_1, kc_2, kc_3, kc_4, kc_5, reduceIte, Nat.reduceEqDiff, Nat.add_zero, rI_hold, rI_hold, rL_hold, hfd0]; done)) ?_
  refine Bod.ic 1 (by decide) dc_387_8 ?_
  refine Bod.icT dc_387_9 rfl (k2_ne_T (k_ne fd0 1 rfl rfl (by omega) (by omega) (by omega))) ?_
  refine Bod.go dc_387_75 rfl ?_
  refine Bod.ifF dc_387_76 rfl (k1_ne_F (k_eq 0 0 rfl rfl (by omega))) ?_
  refine Bod.go dc_387_79 rfl ?_
  refine Bod.get dc_387_80 fr_387_531 (mk_thing ag (by first | exact hz1 | (simp only [rIS, rJS, rAS, rLS, rVS, rQS, rS_hold]; exact hz1))) rfl ?_
  refine Bod.eqI (nI fd0) (by first | assumption | rfl | exact congrArg nI (by omega) | (simp (disch := omega) only [rIn, rIe, rA, rIA, rLA, rJA, rVI, rQI, rVA, rQA, upd_at,  rAI, rLI, rJI, nI_add, pk_sub, kc_0, kc_1, kc_2, kc_3, kc_4, kc_5, reduceIte, Nat.reduceEqDiff, Nat.add_zero, rI_hold, rI_hold, rL_hold, hfd0]; done)) ?_
  refine Bod.ic 2 (by decide) dc_387_83 ?_
  refine Bod.icT dc_387_84 rfl (k2_ne_T (k_ne fd0 2 rfl rfl (by omega) (by omega) (by omega))) ?_
  refine Bod.go dc_387_180 rfl ?_
  refine Bod.go dc_387_181 rfl ?_
  refine Bod.get dc_387_182 fr_387_531 (mk_thing ag (by first | exact hz1 | (simp only [rIS, rJS, rAS, rLS, rVS, rQS, rS_hold]; exact hz1))) rfl ?_
  refine Bod.eqI (nI fd0) (by first | assumption | rfl | exact congrArg nI (by omega) | (simp (disch := omega) only [rIn, rIe, rA, rIA, rLA, rJA, rVI, rQI, rVA, rQA, upd_at,  rAI, rLI, rJI, nI_add, pk_sub, kc_0, kc_1, kc_2, kc_3, kc_4, kc_5, reduceIte, Nat.reduceEqDiff, Nat.add_zero, rI_hold, rI_hold, rL_hold, hfd0]; done)) ?_
  refine Bod.ic 1 (by decide) dc_387_185 ?_
  refine Bod.icT dc_387_186 rfl (k2_ne_T (k_ne fd0 1 rfl rfl (by omega) (by omega) (by omega))) ?_
  refine Bod.go dc_387_195 rfl ?_
  refine Bod.get dc_387_196 fr_387_531 (mk_thing ag (by first | exact hz1 | (simp only [rIS, rJS, rAS, rLS, rVS, rQS, rS_hold]; exact hz1))) rfl ?_
  refine Bod.eqI (nI fd0) (by first | assumption | rfl | exact congrArg nI (by omega) | (simp (disch := omega) only [rIn, rIe, rA, rIA, rLA, rJA, rVI, rQI, rVA, rQA, upd_at,  rAI, rLI, rJI, nI_add, pk_sub, kc_0, kc_1, kc_2, kc_3, kc_4, kc_5, reduceIte, Nat.reduceEqDiff, Nat.add_zero, rI_hold, rI_hold, rL_hold, hfd0]; done)) ?_
  refine Bod.ic 2 (by decide) dc_387_199 ?_
  refine Bod.icT dc_387_200 rfl (k2_ne_T (k_ne fd0 2 rfl rfl (by omega) (by omega) (by omega))) ?_
  refine Bod.go dc_387_209 rfl ?_
  refine Bod.get dc_387_210 fr_387_531 (mk_thing ag (by first | exact hz1 | (simp only [rIS, rJS, rAS, rLS, rVS, rQS, rS_hold]; exact hz1))) rfl ?_
  refine Bod.eqI (nI fd0) (by first | assumption | rfl | exact congrArg nI (by omega) | (simp (disch := omega) only [rIn, rIe, rA, rIA, rLA, rJA, rVI, rQI, rVA, rQA, upd_at,  rAI, rLI, rJI, nI_add, pk_sub, kc_0, kc_1, kc_2, kc_3, kc_4, kc_5, reduceIte, Nat.reduceEqDiff, Nat.add_zero, rI_hold, rI_hold, rL_hold, hfd0]; done)) ?_
  refine Bod.ic 3 (by decide) dc_387_213 ?_
  refine Bod.icT dc_387_214 rfl (k2_ne_T (k_ne fd0 3 rfl rfl (by omega) (by omega) (by omega))) ?_
  refine Bod.go dc_387_223 rfl ?_
  refine Bod.get dc_387_224 fr_387_531 (mk_thing ag (by first | exact hz1 | (simp only [rIS, rJS, rAS, rLS, rVS, rQS, rS_hold]; exact hz1))) rfl ?_
  refine Bod.eqI (nI fd0) (by first | assumption | rfl | exact congrArg nI (by omega) | (simp (disch := omega) only [rIn, rIe, rA, rIA, rLA, rJA, rVI, rQI, rVA, rQA, upd_at,  rAI, rLI, rJI, nI_add, pk_sub, kc_0, kc_1, kc_2, kc_3, kc_4, kc_5, reduceIte, Nat.reduceEqDiff, Nat.add_zero, rI_hold, rI_hold, rL_hold, hfd0]; done)) ?_
  refine Bod.ic 4 (by decide) dc_387_227 ?_
  refine Bod.icF dc_387_228 rfl (k2_ne_F (k_eq fd0 4 rfl rfl (by omega))) ?_
  refine Bod.ldcW dc_387_231 cs_387_842 ?_
  refine Bod.go dc_387_234 rfl ?_
  refine Bod.virt (r := []) dc_387_254 kr_387_821 ⟨Or.inl rfl, ow_384, cl_14⟩ (by rw [np_384]; rfl) (by rw [np_384]; rfl) (ob_of (mk_61 _)) (Nat.le_of_ble_eq_true rfl) (c1  ) ?_
  show Bod _ _ _ _ [] _ _ _
  refine Bod.go dc_387_257 rfl ?_
  refine Bod.ifF dc_387_258 rfl (k1_ne_F (k_eq 0 0 rfl rfl (by omega))) ?_
  refine Bod.go dc_387_261 rfl ?_
  refine Bod.bip 32 (by decide) dc_387_262 ?_
  refine Bod.virt (r := []) dc_387_264 kr_387_818 ⟨Or.inl rfl, ow_382, cl_14⟩ (by rw [np_382]; rfl) (by rw [np_382]; rfl) (ob_of (mk_61 _)) (Nat.le_of_ble_eq_true rfl) (c2  ) ?_
  show Bod _ _ _ _ [] _ _ _
  refine Bod.go dc_387_267 rfl ?_
  refine Bod.get dc_387_268 fr_387_531 (mk_thing ag (by first | exact hz2 | (simp only [rIS, rJS, rAS, rLS, rVS, rQS, rS_hold]; exact hz2))) rfl ?_
  refine Bod.eqI (nI fd01) (by first | assumption | (simp (disch := omega) only [rIn, rIe, rA, rIA, rLA, rJA, rVI, rQI, rVA, rQA, upd_at,  rAI, rLI, rJI, nI_add, pk_sub, kc_0, kc_1, kc_2, kc_3, kc_4, kc_5, reduceIte, Nat.reduceEqDiff, Nat.add_zero, rI_hold, rI_hold, rL_hold, hfd0, hfd01]; done) | (simp (disch := omega) only [rIn, rIe, rA, rIA, rLA, rJA, rVI, rQI, rVA, rQA, upd_at,  rAI, rLI, rJI, nI_add, pk_sub, kc_0, kc_1, kc_2, kc_3, kc_4, kc_5, reduceIte, Nat.reduceEqDiff, Nat.add_zero, rI_hold, rI_hold, rL_hold, hfd0, hfd01]; exact congrArg nI (by omega))) ?_
  refine Bod.ic 5 (by decide) dc_387_271 ?_
  refine Bod.icT dc_387_272 rfl (k2_eq_T (k_eq fd01 5 rfl rfl (by omega))) ?_
  refine Bod.go dc_387_284 rfl ?_
  refine Bod.get dc_387_285 fr_387_485 (mk_61 _) rfl ?_
  refine Bod.go dc_387_288 rfl ?_
  refine Bod.get dc_387_289 fr_387_472 (mk_thing ag (by first | exact hz2 | (simp only [rIS, rJS, rAS, rLS, rVS, rQS, rS_hold]; exact hz2))) rfl ?_
  refine Bod.eqI (nI fd11) (by first | assumption | (simp (disch := omega) only [rIn, rIe, rA, rIA, rLA, rJA, rVI, rQI, rVA, rQA, upd_at,  rAI, rLI, rJI, nI_add, pk_sub, kc_0, kc_1, kc_2, kc_3, kc_4, kc_5, reduceIte, Nat.reduceEqDiff, Nat.add_zero, rI_hold, rI_hold, rL_hold, hfd0, hfd01, hfd11]; done) | (simp (disch := omega) only [rIn, rIe, rA, rIA, rLA, rJA, rVI, rQI, rVA, rQA, upd_at,  rAI, rLI, rJI, nI_add, pk_sub, kc_0, kc_1, kc_2, kc_3, kc_4, kc_5, reduceIte, Nat.reduceEqDiff, Nat.add_zero, rI_hold, rI_hold, rL_hold, hfd0, hfd01, hfd11]; exact congrArg nI (by omega))) ?_
  refine Bod.aaldR (N := 1500) (b := g) fd11 rfl (by omega) (by omega) (by first | exact hq4 | (simp only [rIQ, rJQ, rAQ, rLQ, rVQ, rQ_holdE]; exact hq4)) dc_387_292 (mk_86 _) ht_5 ?_
  refine Bod.get dc_387_293 fr_387_694 (mk_thing ag (by first | exact hz2 | (simp only [rIS, rJS, rAS, rLS, rVS, rQS, rS_hold]; exact hz2))) rfl ?_
  refine Bod.eqI (nI fd10) (by first | assumption | (simp (disch := omega) only [rIn, rIe, rA, rIA, rLA, rJA, rVI, rQI, rVA, rQA, upd_at,  rAI, rLI, rJI, nI_add, pk_sub, kc_0, kc_1, kc_2, kc_3, kc_4, kc_5, reduceIte, Nat.reduceEqDiff, Nat.add_zero, rI_hold, rI_hold, rL_hold, hfd0, hfd01, hfd11, hfd10]; done) | (simp (disch := omega) only [rIn, rIe, rA, rIA, rLA, rJA, rVI, rQI, rVA, rQA, upd_at,  rAI, rLI, rJI, nI_add, pk_sub, kc_0, kc_1, kc_2, kc_3, kc_4, kc_5, reduceIte, Nat.reduceEqDiff, Nat.add_zero, rI_hold, rI_hold, rL_hold, hfd0, hfd01, hfd11, hfd10]; exact congrArg nI (by omega))) ?_
  refine Bod.go dc_387_296 rfl ?_
  refine Bod.istn dc_387_303 (by rw [ml_387]; exact Nat.le_of_ble_eq_true rfl) ?_
  refine Bod.ic 0 (by decide) dc_387_304 ?_
  refine Bod.ist dc_387_305 (by rw [ml_387]; exact Nat.le_of_ble_eq_true rfl) ?_
  exact hB _ (by first | rfl | exact (by repeat (first | exact rfl | exact sm_get_p1 | exact sm_get_p2e | refine sm_get_p1m (by decide) (by decide) ?_ | refine sm_get_p1n (by decide) rfl ?_ | refine sm_get_p2n (by decide) (by decide) rfl ?_ | refine sm_get_p2m (by decide) (by decide) (by decide) ?_))) (by first | rfl | exact (by repeat (first | exact rfl | exact sm_get_p1 | exact sm_get_p2e | refine sm_get_p1m (by decide) (by decide) ?_ | refine sm_get_p1n (by decide) rfl ?_ | refine sm_get_p2n (by decide) (by decide) rfl ?_ | refine sm_get_p2m (by decide) (by decide) (by decide) ?_))) (by first | rfl | exact (by repeat (first | exact rfl | exact sm_get_p1 | exact sm_get_p2e | refine sm_get_p1m (by decide) (by decide) ?_ | refine sm_get_p1n (by decide) rfl ?_ | refine sm_get_p2n (by decide) (by decide) rfl ?_ | refine sm_get_p2m (by decide) (by decide) (by decide) ?_)))
theorem rSt0_8 {d : Nat} {S Sf : cS} {v : Option Value} {g : Nat} {zg : Nat} {fd0 : Nat} {S1 : cS} {S2 : cS} {fd01 : Nat} {fd10 : Nat} (ag : 108 ≤ g) (hz1 : (sS S)[g - 108]? = some (13, zg)) (hfd0 : sI S (100 * g + 0) = nI fd0) (mfd0 : fd0 < 2 ^ 20) (b1 : fd0 ≠ 1) (b2 : fd0 ≠ 2) (b3 : fd0 ≠ 3) (b4 : fd0 = 4) (c1 : Ans (d + 8) 384 [.ref 61, .retAddr (2 * 48)] S none S1) (c2 : Ans (d + 8) 382 [.ref 61, .int (nI 32)] S1 none S2) (hz2 : (sS S2)[g - 108]? = some (13, zg)) (hfd01 : sI S2 (100 * g + 0) = nI fd01) (mfd01 : fd01 < 2 ^ 20) (b5 : fd01 ≠ 5) (b6 : fd01 ≠ 6) (hfd10 : sI S2 (100 * g + 10) = nI fd10) (mfd10 : fd10 < 2 ^ 20) (hB : ∀ lv1 : sm_L, sm_get lv1 0 = some (.ref 61) → sm_get lv1 3 = some (.int (nI fd10)) → sm_get lv1 4 = some (.int (nI 0)) → Bod (d + 8) 387 307 lv1 [] (S2) v Sf) : Bod (d + 8) 387 0 [(0, .ref 61), (1, .ref g), (2, .int (nI 0))] [] S v Sf := by
  refine Bod.go dc_387_0 rfl ?_
  refine Bod.ifF dc_387_1 rfl (k1_ne_F (k_eq 0 0 rfl rfl (by omega))) ?_
  refine Bod.go dc_387_4 rfl ?_
  refine Bod.get dc_387_5 fr_387_531 (mk_thing ag (by first | exact hz1 | (simp only [rIS, rJS, rAS, rLS, rVS, rQS, rS_hold]; exact hz1))) rfl ?_
  refine Bod.eqI (nI fd0) (by first | assumption | rfl | exact congrArg nI (by omega) | (simp (disch := omega) only [rIn, rIe, rA, rIA, rLA, rJA, rVI, rQI, rVA, rQA, upd_at,  rAI, rLI, rJI, nI_add, pk_sub, kc_0, kc_1, kc_2, kc_3, kc_4, kc_5, reduceIte, Nat.reduceEqDiff, Nat.add_zero, rI_hold, rI_hold, rL_hold, hfd0]; done)) ?_
  refine Bod.ic 1 (by decide) dc_387_8 ?_
  refine Bod.icT dc_387_9 rfl (k2_ne_T (k_ne fd0 1 rfl rfl (by omega) (by omega) (by omega))) ?_
  refine Bod.go dc_387_75 rfl ?_
  refine Bod.ifF dc_387_76 rfl (k1_ne_F (k_eq 0 0 rfl rfl (by omega))) ?_
  refine Bod.go dc_387_79 rfl ?_
  refine Bod.get dc_387_80 fr_387_531 (mk_thing ag (by first | exact hz1 | (simp only [rIS, rJS, rAS, rLS, rVS, rQS, rS_hold]; exact hz1))) rfl ?_
  refine Bod.eqI (nI fd0) (by first | assumption | rfl | exact congrArg nI (by omega) | (simp (disch := omega) only [rIn, rIe, rA, rIA, rLA, rJA, rVI, rQI, rVA, rQA, upd_at,  rAI, rLI, rJI, nI_add, pk_sub, kc_0, kc_1, kc_2, kc_3, kc_4, kc_5, reduceIte, Nat.reduceEqDiff, Nat.add_zero, rI_hold, rI_hold, rL_hold, hfd0]; done)) ?_
  refine Bod.ic 2 (by decide) dc_387_83 ?_
  refine Bod.icT dc_387_84 rfl (k2_ne_T (k_ne fd0 2 rfl rfl (by omega) (by omega) (by omega))) ?_
  refine Bod.go dc_387_180 rfl ?_
  refine Bod.go dc_387_181 rfl ?_
  refine Bod.get dc_387_182 fr_387_531 (mk_thing ag (by first | exact hz1 | (simp only [rIS, rJS, rAS, rLS, rVS, rQS, rS_hold]; exact hz1))) rfl ?_
  refine Bod.eqI (nI fd0) (by first | assumption | rfl | exact congrArg nI (by omega) | (simp (disch := omega) only [rIn, rIe, rA, rIA, rLA, rJA, rVI, rQI, rVA, rQA, upd_at,  rAI, rLI, rJI, nI_add, pk_sub, kc_0, kc_1, kc_2, kc_3, kc_4, kc_5, reduceIte, Nat.reduceEqDiff, Nat.add_zero, rI_hold, rI_hold, rL_hold, hfd0]; done)) ?_
  refine Bod.ic 1 (by decide) dc_387_185 ?_
  refine Bod.icT dc_387_186 rfl (k2_ne_T (k_ne fd0 1 rfl rfl (by omega) (by omega) (by omega))) ?_
  refine Bod.go dc_387_195 rfl ?_
  refine Bod.get dc_387_196 fr_387_531 (mk_thing ag (by first | exact hz1 | (simp only [rIS, rJS, rAS, rLS, rVS, rQS, rS_hold]; exact hz1))) rfl ?_
  refine Bod.eqI (nI fd0) (by first | assumption | rfl | exact congrArg nI (by omega) | (simp (disch := omega) only [rIn, rIe, rA, rIA, rLA, rJA, rVI, rQI, rVA, rQA, upd_at,  rAI, rLI, rJI, nI_add, pk_sub, kc_0, kc_1, kc_2, kc_3, kc_4, kc_5, reduceIte, Nat.reduceEqDiff, Nat.add_zero, rI_hold, rI_hold, rL_hold, hfd0]; done)) ?_
  refine Bod.ic 2 (by decide) dc_387_199 ?_
  refine Bod.icT dc_387_200 rfl (k2_ne_T (k_ne fd0 2 rfl rfl (by omega) (by omega) (by omega))) ?_
  refine Bod.go dc_387_209 rfl ?_
  refine Bod.get dc_387_210 fr_387_531 (mk_thing ag (by first | exact hz1 | (simp only [rIS, rJS, rAS, rLS, rVS, rQS, rS_hold]; exact hz1))) rfl ?_
  refine Bod.eqI (nI fd0) (by first | assumption | rfl | exact congrArg nI (by omega) | (simp (disch := omega) only [rIn, rIe, rA, rIA, rLA, rJA, rVI, rQI, rVA, rQA, upd_at,  rAI, rLI, rJI, nI_add, pk_sub, kc_0, kc_1, kc_2, kc_3, kc_4, kc_5, reduceIte, Nat.reduceEqDiff, Nat.add_zero, rI_hold, rI_hold, rL_hold, hfd0]; done)) ?_
  refine Bod.ic 3 (by decide) dc_387_213 ?_
  refine Bod.icT dc_387_214 rfl (k2_ne_T (k_ne fd0 3 rfl rfl (by omega) (by omega) (by omega))) ?_
  refine Bod.go dc_387_223 rfl ?_
  refine Bod.get dc_387_224 fr_387_531 (mk_thing ag (by first | exact hz1 | (simp only [rIS, rJS, rAS, rLS, rVS, rQS, rS_hold]; exact hz1))) rfl ?_
  refine Bod.eqI (nI fd0) (by first | assumption | rfl | exact congrArg nI (by omega) | (simp (disch := omega) only [rIn, rIe, rA, rIA, rLA, rJA, rVI, rQI, rVA, rQA, upd_at,  rAI, rLI, rJI, nI_add, pk_sub, kc_0, kc_1, kc_2, kc_3, kc_4, kc_5, reduceIte, Nat.reduceEqDiff, Nat.add_zero, rI_hold, rI_hold, rL_hold, hfd0]; done)) ?_
  refine Bod.ic 4 (by decide) dc_387_227 ?_
  refine Bod.icF dc_387_228 rfl (k2_ne_F (k_eq fd0 4 rfl rfl (by omega))) ?_
  refine Bod.ldcW dc_387_231 cs_387_842 ?_
  refine Bod.go dc_387_234 rfl ?_
  refine Bod.virt (r := []) dc_387_254 kr_387_821 ⟨Or.inl rfl, ow_384, cl_14⟩ (by rw [np_384]; rfl) (by rw [np_384]; rfl) (ob_of (mk_61 _)) (Nat.le_of_ble_eq_true rfl) (c1  ) ?_
  show Bod _ _ _ _ [] _ _ _
  refine Bod.go dc_387_257 rfl ?_
  refine Bod.ifF dc_387_258 rfl (k1_ne_F (k_eq 0 0 rfl rfl (by omega))) ?_
  refine Bod.go dc_387_261 rfl ?_
  refine Bod.bip 32 (by decide) dc_387_262 ?_
  refine Bod.virt (r := []) dc_387_264 kr_387_818 ⟨Or.inl rfl, ow_382, cl_14⟩ (by rw [np_382]; rfl) (by rw [np_382]; rfl) (ob_of (mk_61 _)) (Nat.le_of_ble_eq_true rfl) (c2  ) ?_
  show Bod _ _ _ _ [] _ _ _
  refine Bod.go dc_387_267 rfl ?_
  refine Bod.get dc_387_268 fr_387_531 (mk_thing ag (by first | exact hz2 | (simp only [rIS, rJS, rAS, rLS, rVS, rQS, rS_hold]; exact hz2))) rfl ?_
  refine Bod.eqI (nI fd01) (by first | assumption | (simp (disch := omega) only [rIn, rIe, rA, rIA, rLA, rJA, rVI, rQI, rVA, rQA, upd_at,  rAI, rLI, rJI, nI_add, pk_sub, kc_0, kc_1, kc_2, kc_3, kc_4, kc_5, reduceIte, Nat.reduceEqDiff, Nat.add_zero, rI_hold, rI_hold, rL_hold, hfd0, hfd01]; done) | (simp (disch := omega) only [rIn, rIe, rA, rIA, rLA, rJA, rVI, rQI, rVA, rQA, upd_at,  rAI, rLI, rJI, nI_add, pk_sub, kc_0, kc_1, kc_2, kc_3, kc_4, kc_5, reduceIte, Nat.reduceEqDiff, Nat.add_zero, rI_hold, rI_hold, rL_hold, hfd0, hfd01]; exact congrArg nI (by omega))) ?_
  refine Bod.ic 5 (by decide) dc_387_271 ?_
  refine Bod.icF dc_387_272 rfl (k2_eq_F (k_ne fd01 5 rfl rfl (by omega) (by omega) (by omega))) ?_
  refine Bod.go dc_387_275 rfl ?_
  refine Bod.get dc_387_276 fr_387_531 (mk_thing ag (by first | exact hz2 | (simp only [rIS, rJS, rAS, rLS, rVS, rQS, rS_hold]; exact hz2))) rfl ?_
  refine Bod.eqI (nI fd01) (by first | assumption | (simp (disch := omega) only [rIn, rIe, rA, rIA, rLA, rJA, rVI, rQI, rVA, rQA, upd_at,  rAI, rLI, rJI, nI_add, pk_sub, kc_0, kc_1, kc_2, kc_3, kc_4, kc_5, reduceIte, Nat.reduceEqDiff, Nat.add_zero, rI_hold, rI_hold, rL_hold, hfd0, hfd01]; done) | (simp (disch := omega) only [rIn, rIe, rA, rIA, rLA, rJA, rVI, rQI, rVA, rQA, upd_at,  rAI, rLI, rJI, nI_add, pk_sub, kc_0, kc_1, kc_2, kc_3, kc_4, kc_5, reduceIte, Nat.reduceEqDiff, Nat.add_zero, rI_hold, rI_hold, rL_hold, hfd0, hfd01]; exact congrArg nI (by omega))) ?_
  refine Bod.bip 6 (by decide) dc_387_279 ?_
  refine Bod.icT dc_387_281 rfl (k2_ne_T (k_ne fd01 6 rfl rfl (by omega) (by omega) (by omega))) ?_
  refine Bod.go dc_387_299 rfl ?_
  refine Bod.get dc_387_300 fr_387_694 (mk_thing ag (by first | exact hz2 | (simp only [rIS, rJS, rAS, rLS, rVS, rQS, rS_hold]; exact hz2))) rfl ?_
  refine Bod.eqI (nI fd10) (by first | assumption | (simp (disch := omega) only [rIn, rIe, rA, rIA, rLA, rJA, rVI, rQI, rVA, rQA, upd_at,  rAI, rLI, rJI, nI_add, pk_sub, kc_0, kc_1, kc_2, kc_3, kc_4, kc_5, reduceIte, Nat.reduceEqDiff, Nat.add_zero, rI_hold, rI_hold, rL_hold, hfd0, hfd01, hfd10]; done) | (simp (disch := omega) only [rIn, rIe, rA, rIA, rLA, rJA, rVI, rQI, rVA, rQA, upd_at,  rAI, rLI, rJI, nI_add, pk_sub, kc_0, kc_1, kc_2, kc_3, kc_4, kc_5, reduceIte, Nat.reduceEqDiff, Nat.add_zero, rI_hold, rI_hold, rL_hold, hfd0, hfd01, hfd10]; exact congrArg nI (by omega))) ?_
  refine Bod.istn dc_387_303 (by rw [ml_387]; exact Nat.le_of_ble_eq_true rfl) ?_
  refine Bod.ic 0 (by decide) dc_387_304 ?_
  refine Bod.ist dc_387_305 (by rw [ml_387]; exact Nat.le_of_ble_eq_true rfl) ?_
  exact hB _ (by first | rfl | exact (by repeat (first | exact rfl | exact sm_get_p1 | exact sm_get_p2e | refine sm_get_p1m (by decide) (by decide) ?_ | refine sm_get_p1n (by decide) rfl ?_ | refine sm_get_p2n (by decide) (by decide) rfl ?_ | refine sm_get_p2m (by decide) (by decide) (by decide) ?_))) (by first | rfl | exact (by repeat (first | exact rfl | exact sm_get_p1 | exact sm_get_p2e | refine sm_get_p1m (by decide) (by decide) ?_ | refine sm_get_p1n (by decide) rfl ?_ | refine sm_get_p2n (by decide) (by decide) rfl ?_ | refine sm_get_p2m (by decide) (by decide) (by decide) ?_))) (by first | rfl | exact (by repeat (first | exact rfl | exact sm_get_p1 | exact sm_get_p2e | refine sm_get_p1m (by decide) (by decide) ?_ | refine sm_get_p1n (by decide) rfl ?_ | refine sm_get_p2n (by decide) (by decide) rfl ?_ | refine sm_get_p2m (by decide) (by decide) (by decide) ?_)))
theorem rSt0_9 {d : Nat} {S Sf : cS} {v : Option Value} {g : Nat} {zg : Nat} {fd0 : Nat} {S1 : cS} {S2 : cS} {fd01 : Nat} {fd11 : Nat} {g : Nat} {zg : Nat} {fd10 : Nat} (ag : 108 ≤ g) (hz1 : (sS S)[g - 108]? = some (13, zg)) (hfd0 : sI S (100 * g + 0) = nI fd0) (mfd0 : fd0 < 2 ^ 20) (b1 : fd0 ≠ 1) (b2 : fd0 ≠ 2) (b3 : fd0 ≠ 3) (b4 : fd0 = 4) (c1 : Ans (d + 8) 384 [.ref 61, .retAddr (2 * 48)] S none S1) (c2 : Ans (d + 8) 382 [.ref 61, .int (nI 32)] S1 none S2) (hz2 : (sS S2)[g - 108]? = some (13, zg)) (hfd01 : sI S2 (100 * g + 0) = nI fd01) (mfd01 : fd01 < 2 ^ 20) (b5 : fd01 ≠ 5) (b6 : fd01 = 6) (hfd11 : sI S2 (100 * g + 11) = nI fd11) (mfd11 : fd11 < 2 ^ 20) (b7 : fd11 < 1500) (ag : 108 ≤ g) (hq4 : sQ S2 86 fd11 = some g) (hfd10 : sI S2 (100 * g + 10) = nI fd10) (mfd10 : fd10 < 2 ^ 20) (hB : ∀ lv1 : sm_L, sm_get lv1 0 = some (.ref 61) → sm_get lv1 3 = some (.int (nI fd10)) → sm_get lv1 4 = some (.int (nI 0)) → Bod (d + 8) 387 307 lv1 [] (S2) v Sf) : Bod (d + 8) 387 0 [(0, .ref 61), (1, .ref g), (2, .int (nI 0))] [] S v Sf := by
  refine Bod.go dc_387_0 rfl ?_
  refine Bod.ifF dc_387_1 rfl (k1_ne_F (k_eq 0 0 rfl rfl (by omega))) ?_
  refine Bod.go dc_387_4 rfl ?_
  refine Bod.get dc_387_5 fr_387_531 (mk_thing ag (by first | exact hz1 | (simp only [rIS, rJS, rAS, rLS, rVS, rQS, rS_hold]; exact hz1))) rfl ?_
  refine Bod.eqI (nI fd0) (by first | assumption | rfl | exact congrArg nI (by omega) | (simp (disch := omega) only [rIn, rIe, rA, rIA, rLA, rJA, rVI, rQI, rVA, rQA, upd_at,  rAI, rLI, rJI, nI_add, pk_sub, kc_0, kc_1, kc_2, kc_3, kc_4, kc_5, reduceIte, Nat.reduceEqDiff, Nat.add_zero, rI_hold, rI_hold, rL_hold, hfd0]; done)) ?_
  refine Bod.ic 1 (by decide) dc_387_8 ?_
  refine Bod.icT dc_387_9 rfl (k2_ne_T (k_ne fd0 1 rfl rfl (by omega) (by omega) (by omega))) ?_
  refine Bod.go dc_387_75 rfl ?_
  refine Bod.ifF dc_387_76 rfl (k1_ne_F (k_eq 0 0 rfl rfl (by omega))) ?_
  refine Bod.go dc_387_79 rfl ?_
  refine Bod.get dc_387_80 fr_387_531 (mk_thing ag (by first | exact hz1 | (simp only [rIS, rJS, rAS, rLS, rVS, rQS, rS_hold]; exact hz1))) rfl ?_
  refine Bod.eqI (nI fd0) (by first | assumption | rfl | exact congrArg nI (by omega) | (simp (disch := omega) only [rIn, rIe, rA, rIA, rLA, rJA, rVI, rQI, rVA, rQA, upd_at,  rAI, rLI, rJI, nI_add, pk_sub, kc_0, kc_1, kc_2, kc_3, kc_4, kc_5, reduceIte, Nat.reduceEqDiff, Nat.add_zero, rI_hold, rI_hold, rL_hold, hfd0]; done)) ?_
  refine Bod.ic 2 (by decide) dc_387_83 ?_
  refine Bod.icT dc_387_84 rfl (k2_ne_T (k_ne fd0 2 rfl rfl (by omega) (by omega) (by omega))) ?_
  refine Bod.go dc_387_180 rfl ?_
  refine Bod.go dc_387_181 rfl ?_
  refine Bod.get dc_387_182 fr_387_531 (mk_thing ag (by first | exact hz1 | (simp only [rIS, rJS, rAS, rLS, rVS, rQS, rS_hold]; exact hz1))) rfl ?_
  refine Bod.eqI (nI fd0) (by first | assumption | rfl | exact congrArg nI (by omega) | (simp (disch := omega) only [rIn, rIe, rA, rIA, rLA, rJA, rVI, rQI, rVA, rQA, upd_at,  rAI, rLI, rJI, nI_add, pk_sub, kc_0, kc_1, kc_2, kc_3, kc_4, kc_5, reduceIte, Nat.reduceEqDiff, Nat.add_zero, rI_hold, rI_hold, rL_hold, hfd0]; done)) ?_
  refine Bod.ic 1 (by decide) dc_387_185 ?_
  refine Bod.icT dc_387_186 rfl (k2_ne_T (k_ne fd0 1 rfl rfl (by omega) (by omega) (by omega))) ?_
  refine Bod.go dc_387_195 rfl ?_
  refine Bod.get dc_387_196 fr_387_531 (mk_thing ag (by first | exact hz1 | (simp only [rIS, rJS, rAS, rLS, rVS, rQS, rS_hold]; exact hz1))) rfl ?_
  refine Bod.eqI (nI fd0) (by first | assumption | rfl | exact congrArg nI (by omega) | (simp (disch := omega) only [rIn, rIe, rA, rIA, rLA, rJA, rVI, rQI, rVA, rQA, upd_at,  rAI, rLI, rJI, nI_add, pk_sub, kc_0, kc_1, kc_2, kc_3, kc_4, kc_5, reduceIte, Nat.reduceEqDiff, Nat.add_zero, rI_hold, rI_hold, rL_hold, hfd0]; done)) ?_
  refine Bod.ic 2 (by decide) dc_387_199 ?_
  refine Bod.icT dc_387_200 rfl (k2_ne_T (k_ne fd0 2 rfl rfl (by omega) (by omega) (by omega))) ?_
  refine Bod.go dc_387_209 rfl ?_
  refine Bod.get dc_387_210 fr_387_531 (mk_thing ag (by first | exact hz1 | (simp only [rIS, rJS, rAS, rLS, rVS, rQS, rS_hold]; exact hz1))) rfl ?_
  refine Bod.eqI (nI fd0) (by first | assumption | rfl | exact congrArg nI (by omega) | (simp (disch := omega) only [rIn, rIe, rA, rIA, rLA, rJA, rVI, rQI, rVA, rQA, upd_at,  rAI, rLI, rJI, nI_add, pk_sub, kc_0, kc_1, kc_2, kc_3, kc_4, kc_5, reduceIte, Nat.reduceEqDiff, Nat.add_zero, rI_hold, rI_hold, rL_hold, hfd0]; done)) ?_
  refine Bod.ic 3 (by decide) dc_387_213 ?_
  refine Bod.icT dc_387_214 rfl (k2_ne_T (k_ne fd0 3 rfl rfl (by omega) (by omega) (by omega))) ?_
  refine Bod.go dc_387_223 rfl ?_
  refine Bod.get dc_387_224 fr_387_531 (mk_thing ag (by first | exact hz1 | (simp only [rIS, rJS, rAS, rLS, rVS, rQS, rS_hold]; exact hz1))) rfl ?_
  refine Bod.eqI (nI fd0) (by first | assumption | rfl | exact congrArg nI (by omega) | (simp (disch := omega) only [rIn, rIe, rA, rIA, rLA, rJA, rVI, rQI, rVA, rQA, upd_at,  rAI, rLI, rJI, nI_add, pk_sub, kc_0, kc_1, kc_2, kc_3, kc_4, kc_5, reduceIte, Nat.reduceEqDiff, Nat.add_zero, rI_hold, rI_hold, rL_hold, hfd0]; done)) ?_
  refine Bod.ic 4 (by decide) dc_387_227 ?_
  refine Bod.icF dc_387_228 rfl (k2_ne_F (k_eq fd0 4 rfl rfl (by omega))) ?_
  refine Bod.ldcW dc_387_231 cs_387_842 ?_
  refine Bod.go dc_387_234 rfl ?_
  refine Bod.virt (r := []) dc_387_254 kr_387_821 ⟨Or.inl rfl, ow_384, cl_14⟩ (by rw [np_384]; rfl) (by rw [np_384]; rfl) (ob_of (mk_61 _)) (Nat.le_of_ble_eq_true rfl) (c1  ) ?_
  show Bod _ _ _ _ [] _ _ _
  refine Bod.go dc_387_257 rfl ?_
  refine Bod.ifF dc_387_258 rfl (k1_ne_F (k_eq 0 0 rfl rfl (by omega))) ?_
  refine Bod.go dc_387_261 rfl ?_
  refine Bod.bip 32 (by decide) dc_387_262 ?_
  refine Bod.virt (r := []) dc_387_264 kr_387_818 ⟨Or.inl rfl, ow_382, cl_14⟩ (by rw [np_382]; rfl) (by rw [np_382]; rfl) (ob_of (mk_61 _)) (Nat.le_of_ble_eq_true rfl) (c2  ) ?_
  show Bod _ _ _ _ [] _ _ _
  refine Bod.go dc_387_267 rfl ?_
  refine Bod.get dc_387_268 fr_387_531 (mk_thing ag (by first | exact hz2 | (simp only [rIS, rJS, rAS, rLS, rVS, rQS, rS_hold]; exact hz2))) rfl ?_
  refine Bod.eqI (nI fd01) (by first | assumption | (simp (disch := omega) only [rIn, rIe, rA, rIA, rLA, rJA, rVI, rQI, rVA, rQA, upd_at,  rAI, rLI, rJI, nI_add, pk_sub, kc_0, kc_1, kc_2, kc_3, kc_4, kc_5, reduceIte, Nat.reduceEqDiff, Nat.add_zero, rI_hold, rI_hold, rL_hold, hfd0, hfd01]; done) | (simp (disch := omega) only [rIn, rIe, rA, rIA, rLA, rJA, rVI, rQI, rVA, rQA, upd_at,  rAI, rLI, rJI, nI_add, pk_sub, kc_0, kc_1, kc_2, kc_3, kc_4, kc_5, reduceIte, Nat.reduceEqDiff, Nat.add_zero, rI_hold, rI_hold, rL_hold, hfd0, hfd01]; exact congrArg nI (by omega))) ?_
  refine Bod.ic 5 (by decide) dc_387_271 ?_
  refine Bod.icF dc_387_272 rfl (k2_eq_F (k_ne fd01 5 rfl rfl (by omega) (by omega) (by omega))) ?_
  refine Bod.go dc_387_275 rfl ?_
  refine Bod.get dc_387_276 fr_387_531 (mk_thing ag (by first | exact hz2 | (simp only [rIS, rJS, rAS, rLS, rVS, rQS, rS_hold]; exact hz2))) rfl ?_
  refine Bod.eqI (nI fd01) (by first | assumption | (simp (disch := omega) only [rIn, rIe, rA, rIA, rLA, rJA, rVI, rQI, rVA, rQA, upd_at,  rAI, rLI, rJI, nI_add, pk_sub, kc_0, kc_1, kc_2, kc_3, kc_4, kc_5, reduceIte, Nat.reduceEqDiff, Nat.add_zero, rI_hold, rI_hold, rL_hold, hfd0, hfd01]; done) | (simp (disch := omega) only [rIn, rIe, rA, rIA, rLA, rJA, rVI, rQI, rVA, rQA, upd_at,  rAI, rLI, rJI, nI_add, pk_sub, kc_0, kc_1, kc_2, kc_3, kc_4, kc_5, reduceIte, Nat.reduceEqDiff, Nat.add_zero, rI_hold, rI_hold, rL_hold, hfd0, hfd01]; exact congrArg nI (by omega))) ?_
  refine Bod.bip 6 (by decide) dc_387_279 ?_
  refine Bod.icF dc_387_281 rfl (k2_ne_F (k_eq fd01 6 rfl rfl (by omega))) ?_
  refine Bod.go dc_387_284 rfl ?_
  refine Bod.get dc_387_285 fr_387_485 (mk_61 _) rfl ?_
  refine Bod.go dc_387_288 rfl ?_
  refine Bod.get dc_387_289 fr_387_472 (mk_thing ag (by first | exact hz2 | (simp only [rIS, rJS, rAS, rLS, rVS, rQS, rS_hold]; exact hz2))) rfl ?_
  refine Bod.eqI (nI fd11) (by first | assumption | (simp (disch := omega) only [rIn, rIe, rA, rIA, rLA, rJA, rVI, rQI, rVA, rQA, upd_at,  rAI, rLI, rJI, nI_add, pk_sub, kc_0, kc_1, kc_2, kc_3, kc_4, kc_5, reduceIte, Nat.reduceEqDiff, Nat.add_zero, rI_hold, rI_hold, rL_hold, hfd0, hfd01, hfd11]; done) | (simp (disch := omega) only [rIn, rIe, rA, rIA, rLA, rJA, rVI, rQI, rVA, rQA, upd_at,  rAI, rLI, rJI, nI_add, pk_sub, kc_0, kc_1, kc_2, kc_3, kc_4, kc_5, reduceIte, Nat.reduceEqDiff, Nat.add_zero, rI_hold, rI_hold, rL_hold, hfd0, hfd01, hfd11]; exact congrArg nI (by omega))) ?_
  refine Bod.aaldR (N := 1500) (b := g) fd11 rfl (by omega) (by omega) (by first | exact hq4 | (simp only [rIQ, rJQ, rAQ, rLQ, rVQ, rQ_holdE]; exact hq4)) dc_387_292 (mk_86 _) ht_5 ?_
  refine Bod.get dc_387_293 fr_387_694 (mk_thing ag (by first | exact hz2 | (simp only [rIS, rJS, rAS, rLS, rVS, rQS, rS_hold]; exact hz2))) rfl ?_
  refine Bod.eqI (nI fd10) (by first | assumption | (simp (disch := omega) only [rIn, rIe, rA, rIA, rLA, rJA, rVI, rQI, rVA, rQA, upd_at,  rAI, rLI, rJI, nI_add, pk_sub, kc_0, kc_1, kc_2, kc_3, kc_4, kc_5, reduceIte, Nat.reduceEqDiff, Nat.add_zero, rI_hold, rI_hold, rL_hold, hfd0, hfd01, hfd11, hfd10]; done) | (simp (disch := omega) only [rIn, rIe, rA, rIA, rLA, rJA, rVI, rQI, rVA, rQA, upd_at,  rAI, rLI, rJI, nI_add, pk_sub, kc_0, kc_1, kc_2, kc_3, kc_4, kc_5, reduceIte, Nat.reduceEqDiff, Nat.add_zero, rI_hold, rI_hold, rL_hold, hfd0, hfd01, hfd11, hfd10]; exact congrArg nI (by omega))) ?_
  refine Bod.go dc_387_296 rfl ?_
  refine Bod.istn dc_387_303 (by rw [ml_387]; exact Nat.le_of_ble_eq_true rfl) ?_
  refine Bod.ic 0 (by decide) dc_387_304 ?_
  refine Bod.ist dc_387_305 (by rw [ml_387]; exact Nat.le_of_ble_eq_true rfl) ?_
  exact hB _ (by first | rfl | exact (by repeat (first | exact rfl | exact sm_get_p1 | exact sm_get_p2e | refine sm_get_p1m (by decide) (by decide) ?_ | refine sm_get_p1n (by decide) rfl ?_ | refine sm_get_p2n (by decide) (by decide) rfl ?_ | refine sm_get_p2m (by decide) (by decide) (by decide) ?_))) (by first | rfl | exact (by repeat (first | exact rfl | exact sm_get_p1 | exact sm_get_p2e | refine sm_get_p1m (by decide) (by decide) ?_ | refine sm_get_p1n (by decide) rfl ?_ | refine sm_get_p2n (by decide) (by decide) rfl ?_ | refine sm_get_p2m (by decide) (by decide) (by decide) ?_))) (by first | rfl | exact (by repeat (first | exact rfl | exact sm_get_p1 | exact sm_get_p2e | refine sm_get_p1m (by decide) (by decide) ?_ | refine sm_get_p1n (by decide) rfl ?_ | refine sm_get_p2n (by decide) (by decide) rfl ?_ | refine sm_get_p2m (by decide) (by decide) (by decide) ?_)))
theorem rSt0_10 {d : Nat} {S Sf : cS} {v : Option Value} {g : Nat} {zg : Nat} {fd0 : Nat} {S1 : cS} {S2 : cS} {fd01 : Nat} {fd11 : Nat} {g : Nat} {zg : Nat} {fd10 : Nat} (ag : 108 ≤ g) (hz1 : (sS S)[g - 108]? = some (13, zg)) (hfd0 : sI S (100 * g + 0) = nI fd0) (mfd0 : fd0 < 2 ^ 20) (b1 : fd0 ≠ 1) (b2 : fd0 ≠ 2) (b3 : fd0 = 3) (c1 : Ans (d + 8) 384 [.ref 61, .retAddr (2 * 47)] S none S1) (c2 : Ans (d + 8) 382 [.ref 61, .int (nI 32)] S1 none S2) (hz2 : (sS S2)[g - 108]? = some (13, zg)) (hfd01 : sI S2 (100 * g + 0) = nI fd01) (mfd01 : fd01 < 2 ^ 20) (b4 : fd01 = 5) (hfd11 : sI S2 (100 * g + 11) = nI fd11) (mfd11 : fd11 < 2 ^ 20) (b5 : fd11 < 1500) (ag : 108 ≤ g) (hq4 : sQ S2 86 fd11 = some g) (hfd10 : sI S2 (100 * g + 10) = nI fd10) (mfd10 : fd10 < 2 ^ 20) (hB : ∀ lv1 : sm_L, sm_get lv1 0 = some (.ref 61) → sm_get lv1 3 = some (.int (nI fd10)) → sm_get lv1 4 = some (.int (nI 0)) → Bod (d + 8) 387 307 lv1 [] (S2) v Sf) : Bod (d + 8) 387 0 [(0, .ref 61), (1, .ref g), (2, .int (nI 0))] [] S v Sf := by
  refine Bod.go dc_387_0 rfl ?_
  refine Bod.ifF dc_387_1 rfl (k1_ne_F (k_eq 0 0 rfl rfl (by omega))) ?_
  refine Bod.go dc_387_4 rfl ?_
  refine Bod.get dc_387_5 fr_387_531 (mk_thing ag (by first | exact hz1 | (simp only [rIS, rJS, rAS, rLS, rVS, rQS, rS_hold]; exact hz1))) rfl ?_
  refine Bod.eqI (nI fd0) (by first | assumption | rfl | exact congrArg nI (by omega) | (simp (disch := omega) only [rIn, rIe, rA, rIA, rLA, rJA, rVI, rQI, rVA, rQA, upd_at,  rAI, rLI, rJI, nI_add, pk_sub, kc_0, kc_1, kc_2, kc_3, kc_4, kc_5, reduceIte, Nat.reduceEqDiff, Nat.add_zero, rI_hold, rI_hold, rL_hold, hfd0]; done)) ?_
  refine Bod.ic 1 (by decide) dc_387_8 ?_
  refine Bod.icT dc_387_9 rfl (k2_ne_T (k_ne fd0 1 rfl rfl (by omega) (by omega) (by omega))) ?_
  refine Bod.go dc_387_75 rfl ?_
  refine Bod.ifF dc_387_76 rfl (k1_ne_F (k_eq 0 0 rfl rfl (by omega))) ?_
  refine Bod.go dc_387_79 rfl ?_
  refine Bod.get dc_387_80 fr_387_531 (mk_thing ag (by first | exact hz1 | (simp only [rIS, rJS, rAS, rLS, rVS, rQS, rS_hold]; exact hz1))) rfl ?_
  refine Bod.eqI (nI fd0) (by first | assumption | rfl | exact congrArg nI (by omega) | (simp (disch := omega) only [rIn, rIe, rA, rIA, rLA, rJA, rVI, rQI, rVA, rQA, upd_at,  rAI, rLI, rJI, nI_add, pk_sub, kc_0, kc_1, kc_2, kc_3, kc_4, kc_5, reduceIte, Nat.reduceEqDiff, Nat.add_zero, rI_hold, rI_hold, rL_hold, hfd0]; done)) ?_
  refine Bod.ic 2 (by decide) dc_387_83 ?_
  refine Bod.icT dc_387_84 rfl (k2_ne_T (k_ne fd0 2 rfl rfl (by omega) (by omega) (by omega))) ?_
  refine Bod.go dc_387_180 rfl ?_
  refine Bod.go dc_387_181 rfl ?_
  refine Bod.get dc_387_182 fr_387_531 (mk_thing ag (by first | exact hz1 | (simp only [rIS, rJS, rAS, rLS, rVS, rQS, rS_hold]; exact hz1))) rfl ?_
  refine Bod.eqI (nI fd0) (by first | assumption | rfl | exact congrArg nI (by omega) | (simp (disch := omega) only [rIn, rIe, rA, rIA, rLA, rJA, rVI, rQI, rVA, rQA, upd_at,  rAI, rLI, rJI, nI_add, pk_sub, kc_0, kc_1, kc_2, kc_3, kc_4, kc_5, reduceIte, Nat.reduceEqDiff, Nat.add_zero, rI_hold, rI_hold, rL_hold, hfd0]; done)) ?_
  refine Bod.ic 1 (by decide) dc_387_185 ?_
  refine Bod.icT dc_387_186 rfl (k2_ne_T (k_ne fd0 1 rfl rfl (by omega) (by omega) (by omega))) ?_
  refine Bod.go dc_387_195 rfl ?_
  refine Bod.get dc_387_196 fr_387_531 (mk_thing ag (by first | exact hz1 | (simp only [rIS, rJS, rAS, rLS, rVS, rQS, rS_hold]; exact hz1))) rfl ?_
  refine Bod.eqI (nI fd0) (by first | assumption | rfl | exact congrArg nI (by omega) | (simp (disch := omega) only [rIn, rIe, rA, rIA, rLA, rJA, rVI, rQI, rVA, rQA, upd_at,  rAI, rLI, rJI, nI_add, pk_sub, kc_0, kc_1, kc_2, kc_3, kc_4, kc_5, reduceIte, Nat.reduceEqDiff, Nat.add_zero, rI_hold, rI_hold, rL_hold, hfd0]; done)) ?_
  refine Bod.ic 2 (by decide) dc_387_199 ?_
  refine Bod.icT dc_387_200 rfl (k2_ne_T (k_ne fd0 2 rfl rfl (by omega) (by omega) (by omega))) ?_
  refine Bod.go dc_387_209 rfl ?_
  refine Bod.get dc_387_210 fr_387_531 (mk_thing ag (by first | exact hz1 | (simp only [rIS, rJS, rAS, rLS, rVS, rQS, rS_hold]; exact hz1))) rfl ?_
  refine Bod.eqI (nI fd0) (by first | assumption | rfl | exact congrArg nI (by omega) | (simp (disch := omega) only [rIn, rIe, rA, rIA, rLA, rJA, rVI, rQI, rVA, rQA, upd_at,  rAI, rLI, rJI, nI_add, pk_sub, kc_0, kc_1, kc_2, kc_3, kc_4, kc_5, reduceIte, Nat.reduceEqDiff, Nat.add_zero, rI_hold, rI_hold, rL_hold, hfd0]; done)) ?_
  refine Bod.ic 3 (by decide) dc_387_213 ?_
  refine Bod.icF dc_387_214 rfl (k2_ne_F (k_eq fd0 3 rfl rfl (by omega))) ?_
  refine Bod.ldcW dc_387_217 cs_387_840 ?_
  refine Bod.go dc_387_220 rfl ?_
  refine Bod.virt (r := []) dc_387_254 kr_387_821 ⟨Or.inl rfl, ow_384, cl_14⟩ (by rw [np_384]; rfl) (by rw [np_384]; rfl) (ob_of (mk_61 _)) (Nat.le_of_ble_eq_true rfl) (c1  ) ?_
  show Bod _ _ _ _ [] _ _ _
  refine Bod.go dc_387_257 rfl ?_
  refine Bod.ifF dc_387_258 rfl (k1_ne_F (k_eq 0 0 rfl rfl (by omega))) ?_
  refine Bod.go dc_387_261 rfl ?_
  refine Bod.bip 32 (by decide) dc_387_262 ?_
  refine Bod.virt (r := []) dc_387_264 kr_387_818 ⟨Or.inl rfl, ow_382, cl_14⟩ (by rw [np_382]; rfl) (by rw [np_382]; rfl) (ob_of (mk_61 _)) (Nat.le_of_ble_eq_true rfl) (c2  ) ?_
  show Bod _ _ _ _ [] _ _ _
  refine Bod.go dc_387_267 rfl ?_
  refine Bod.get dc_387_268 fr_387_531 (mk_thing ag (by first | exact hz2 | (simp only [rIS, rJS, rAS, rLS, rVS, rQS, rS_hold]; exact hz2))) rfl ?_
  refine Bod.eqI (nI fd01) (by first | assumption | (simp (disch := omega) only [rIn, rIe, rA, rIA, rLA, rJA, rVI, rQI, rVA, rQA, upd_at,  rAI, rLI, rJI, nI_add, pk_sub, kc_0, kc_1, kc_2, kc_3, kc_4, kc_5, reduceIte, Nat.reduceEqDiff, Nat.add_zero, rI_hold, rI_hold, rL_hold, hfd0, hfd01]; done) | (simp (disch := omega) only [rIn, rIe, rA, rIA, rLA, rJA, rVI, rQI, rVA, rQA, upd_at,  rAI, rLI, rJI, nI_add, pk_sub, kc_0, kc_1, kc_2, kc_3, kc_4, kc_5, reduceIte, Nat.reduceEqDiff, Nat.add_zero, rI_hold, rI_hold, rL_hold, hfd0, hfd01]; exact congrArg nI (by omega))) ?_
  refine Bod.ic 5 (by decide) dc_387_271 ?_
  refine Bod.icT dc_387_272 rfl (k2_eq_T (k_eq fd01 5 rfl rfl (by omega))) ?_
  refine Bod.go dc_387_284 rfl ?_
  refine Bod.get dc_387_285 fr_387_485 (mk_61 _) rfl ?_
  refine Bod.go dc_387_288 rfl ?_
  refine Bod.get dc_387_289 fr_387_472 (mk_thing ag (by first | exact hz2 | (simp only [rIS, rJS, rAS, rLS, rVS, rQS, rS_hold]; exact hz2))) rfl ?_
  refine Bod.eqI (nI fd11) (by first | assumption | (simp (disch := omega) only [rIn, rIe, rA, rIA, rLA, rJA, rVI, rQI, rVA, rQA, upd_at,  rAI, rLI, rJI, nI_add, pk_sub, kc_0, kc_1, kc_2, kc_3, kc_4, kc_5, reduceIte, Nat.reduceEqDiff, Nat.add_zero, rI_hold, rI_hold, rL_hold, hfd0, hfd01, hfd11]; done) | (simp (disch := omega) only [rIn, rIe, rA, rIA, rLA, rJA, rVI, rQI, rVA, rQA, upd_at,  rAI, rLI, rJI, nI_add, pk_sub, kc_0, kc_1, kc_2, kc_3, kc_4, kc_5, reduceIte, Nat.reduceEqDiff, Nat.add_zero, rI_hold, rI_hold, rL_hold, hfd0, hfd01, hfd11]; exact congrArg nI (by omega))) ?_
  refine Bod.aaldR (N := 1500) (b := g) fd11 rfl (by omega) (by omega) (by first | exact hq4 | (simp only [rIQ, rJQ, rAQ, rLQ, rVQ, rQ_holdE]; exact hq4)) dc_387_292 (mk_86 _) ht_5 ?_
  refine Bod.get dc_387_293 fr_387_694 (mk_thing ag (by first | exact hz2 | (simp only [rIS, rJS, rAS, rLS, rVS, rQS, rS_hold]; exact hz2))) rfl ?_
  refine Bod.eqI (nI fd10) (by first | assumption | (simp (disch := omega) only [rIn, rIe, rA, rIA, rLA, rJA, rVI, rQI, rVA, rQA, upd_at,  rAI, rLI, rJI, nI_add, pk_sub, kc_0, kc_1, kc_2, kc_3, kc_4, kc_5, reduceIte, Nat.reduceEqDiff, Nat.add_zero, rI_hold, rI_hold, rL_hold, hfd0, hfd01, hfd11, hfd10]; done) | (simp (disch := omega) only [rIn, rIe, rA, rIA, rLA, rJA, rVI, rQI, rVA, rQA, upd_at,  rAI, rLI, rJI, nI_add, pk_sub, kc_0, kc_1, kc_2, kc_3, kc_4, kc_5, reduceIte, Nat.reduceEqDiff, Nat.add_zero, rI_hold, rI_hold, rL_hold, hfd0, hfd01, hfd11, hfd10]; exact congrArg nI (by omega))) ?_
  refine Bod.go dc_387_296 rfl ?_
  refine Bod.istn dc_387_303 (by rw [ml_387]; exact Nat.le_of_ble_eq_true rfl) ?_
  refine Bod.ic 0 (by decide) dc_387_304 ?_
  refine Bod.ist dc_387_305 (by rw [ml_387]; exact Nat.le_of_ble_eq_true rfl) ?_
  exact hB _ (by first | rfl | exact (by repeat (first | exact rfl | exact sm_get_p1 | exact sm_get_p2e | refine sm_get_p1m (by decide) (by decide) ?_ | refine sm_get_p1n (by decide) rfl ?_ | refine sm_get_p2n (by decide) (by decide) rfl ?_ | refine sm_get_p2m (by decide) (by decide) (by decide) ?_))) (by first | rfl | exact (by repeat (first | exact rfl | exact sm_get_p1 | exact sm_get_p2e | refine sm_get_p1m (by decide) (by decide) ?_ | refine sm_get_p1n (by decide) rfl ?_ | refine sm_get_p2n (by decide) (by decide) rfl ?_ | refine sm_get_p2m (by decide) (by decide) (by decide) ?_))) (by first | rfl | exact (by repeat (first | exact rfl | exact sm_get_p1 | exact sm_get_p2e | refine sm_get_p1m (by decide) (by decide) ?_ | refine sm_get_p1n (by decide) rfl ?_ | refine sm_get_p2n (by decide) (by decide) rfl ?_ | refine sm_get_p2m (by decide) (by decide) (by decide) ?_)))
theorem rSt0_11 {d : Nat} {S Sf : cS} {v : Option Value} {g : Nat} {zg : Nat} {fd0 : Nat} {S1 : cS} {S2 : cS} {fd01 : Nat} {fd10 : Nat} (ag : 108 ≤ g) (hz1 : (sS S)[g - 108]? = some (13, zg)) (hfd0 : sI S (100 * g + 0) = nI fd0) (mfd0 : fd0 < 2 ^ 20) (b1 : fd0 ≠ 1) (b2 : fd0 ≠ 2) (b3 : fd0 = 3) (c1 : Ans (d + 8) 384 [.ref 61, .retAddr (2 * 47)] S none S1) (c2 : Ans (d + 8) 382 [.ref 61, .int (nI 32)] S1 none S2) (hz2 : (sS S2)[g - 108]? = some (13, zg)) (hfd01 : sI S2 (100 * g + 0) = nI fd01) (mfd01 : fd01 < 2 ^ 20) (b4 : fd01 ≠ 5) (b5 : fd01 ≠ 6) (hfd10 : sI S2 (100 * g + 10) = nI fd10) (mfd10 : fd10 < 2 ^ 20) (hB : ∀ lv1 : sm_L, sm_get lv1 0 = some (.ref 61) → sm_get lv1 3 = some (.int (nI fd10)) → sm_get lv1 4 = some (.int (nI 0)) → Bod (d + 8) 387 307 lv1 [] (S2) v Sf) : Bod (d + 8) 387 0 [(0, .ref 61), (1, .ref g), (2, .int (nI 0))] [] S v Sf := by
  refine Bod.go dc_387_0 rfl ?_
  refine Bod.ifF dc_387_1 rfl (k1_ne_F (k_eq 0 0 rfl rfl (by omega))) ?_
  refine Bod.go dc_387_4 rfl ?_
  refine Bod.get dc_387_5 fr_387_531 (mk_thing ag (by first | exact hz1 | (simp only [rIS, rJS, rAS, rLS, rVS, rQS, rS_hold]; exact hz1))) rfl ?_
  refine Bod.eqI (nI fd0) (by first | assumption | rfl | exact congrArg nI (by omega) | (simp (disch := omega) only [rIn, rIe, rA, rIA, rLA, rJA, rVI, rQI, rVA, rQA, upd_at,  rAI, rLI, rJI, nI_add, pk_sub, kc_0, kc_1, kc_2, kc_3, kc_4, kc_5, reduceIte, Nat.reduceEqDiff, Nat.add_zero, rI_hold, rI_hold, rL_hold, hfd0]; done)) ?_
  refine Bod.ic 1 (by decide) dc_387_8 ?_
  refine Bod.icT dc_387_9 rfl (k2_ne_T (k_ne fd0 1 rfl rfl (by omega) (by omega) (by omega))) ?_
  refine Bod.go dc_387_75 rfl ?_
  refine Bod.ifF dc_387_76 rfl (k1_ne_F (k_eq 0 0 rfl rfl (by omega))) ?_
  refine Bod.go dc_387_79 rfl ?_
  refine Bod.get dc_387_80 fr_387_531 (mk_thing ag (by first | exact hz1 | (simp only [rIS, rJS, rAS, rLS, rVS, rQS, rS_hold]; exact hz1))) rfl ?_
  refine Bod.eqI (nI fd0) (by first | assumption | rfl | exact congrArg nI (by omega) | (simp (disch := omega) only [rIn, rIe, rA, rIA, rLA, rJA, rVI, rQI, rVA, rQA, upd_at,  rAI, rLI, rJI, nI_add, pk_sub, kc_0, kc_1, kc_2, kc_3, kc_4, kc_5, reduceIte, Nat.reduceEqDiff, Nat.add_zero, rI_hold, rI_hold, rL_hold, hfd0]; done)) ?_
  refine Bod.ic 2 (by decide) dc_387_83 ?_
  refine Bod.icT dc_387_84 rfl (k2_ne_T (k_ne fd0 2 rfl rfl (by omega) (by omega) (by omega))) ?_
  refine Bod.go dc_387_180 rfl ?_
  refine Bod.go dc_387_181 rfl ?_
  refine Bod.get dc_387_182 fr_387_531 (mk_thing ag (by first | exact hz1 | (simp only [rIS, rJS, rAS, rLS, rVS, rQS, rS_hold]; exact hz1))) rfl ?_
  refine Bod.eqI (nI fd0) (by first | assumption | rfl | exact congrArg nI (by omega) | (simp (disch := omega) only [rIn, rIe, rA, rIA, rLA, rJA, rVI, rQI, rVA, rQA, upd_at,  rAI, rLI, rJI, nI_add, pk_sub, kc_0, kc_1, kc_2, kc_3, kc_4, kc_5, reduceIte, Nat.reduceEqDiff, Nat.add_zero, rI_hold, rI_hold, rL_hold, hfd0]; done)) ?_
  refine Bod.ic 1 (by decide) dc_387_185 ?_
  refine Bod.icT dc_387_186 rfl (k2_ne_T (k_ne fd0 1 rfl rfl (by omega) (by omega) (by omega))) ?_
  refine Bod.go dc_387_195 rfl ?_
  refine Bod.get dc_387_196 fr_387_531 (mk_thing ag (by first | exact hz1 | (simp only [rIS, rJS, rAS, rLS, rVS, rQS, rS_hold]; exact hz1))) rfl ?_
  refine Bod.eqI (nI fd0) (by first | assumption | rfl | exact congrArg nI (by omega) | (simp (disch := omega) only [rIn, rIe, rA, rIA, rLA, rJA, rVI, rQI, rVA, rQA, upd_at,  rAI, rLI, rJI, nI_add, pk_sub, kc_0, kc_1, kc_2, kc_3, kc_4, kc_5, reduceIte, Nat.reduceEqDiff, Nat.add_zero, rI_hold, rI_hold, rL_hold, hfd0]; done)) ?_
  refine Bod.ic 2 (by decide) dc_387_199 ?_
  refine Bod.icT dc_387_200 rfl (k2_ne_T (k_ne fd0 2 rfl rfl (by omega) (by omega) (by omega))) ?_
  refine Bod.go dc_387_209 rfl ?_
  refine Bod.get dc_387_210 fr_387_531 (mk_thing ag (by first | exact hz1 | (simp only [rIS, rJS, rAS, rLS, rVS, rQS, rS_hold]; exact hz1))) rfl ?_
  refine Bod.eqI (nI fd0) (by first | assumption | rfl | exact congrArg nI (by omega) | (simp (disch := omega) only [rIn, rIe, rA, rIA, rLA, rJA, rVI, rQI, rVA, rQA, upd_at,  rAI, rLI, rJI, nI_add, pk_sub, kc_0, kc_1, kc_2, kc_3, kc_4, kc_5, reduceIte, Nat.reduceEqDiff, Nat.add_zero, rI_hold, rI_hold, rL_hold, hfd0]; done)) ?_
  refine Bod.ic 3 (by decide) dc_387_213 ?_
  refine Bod.icF dc_387_214 rfl (k2_ne_F (k_eq fd0 3 rfl rfl (by omega))) ?_
  refine Bod.ldcW dc_387_217 cs_387_840 ?_
  refine Bod.go dc_387_220 rfl ?_
  refine Bod.virt (r := []) dc_387_254 kr_387_821 ⟨Or.inl rfl, ow_384, cl_14⟩ (by rw [np_384]; rfl) (by rw [np_384]; rfl) (ob_of (mk_61 _)) (Nat.le_of_ble_eq_true rfl) (c1  ) ?_
  show Bod _ _ _ _ [] _ _ _
  refine Bod.go dc_387_257 rfl ?_
  refine Bod.ifF dc_387_258 rfl (k1_ne_F (k_eq 0 0 rfl rfl (by omega))) ?_
  refine Bod.go dc_387_261 rfl ?_
  refine Bod.bip 32 (by decide) dc_387_262 ?_
  refine Bod.virt (r := []) dc_387_264 kr_387_818 ⟨Or.inl rfl, ow_382, cl_14⟩ (by rw [np_382]; rfl) (by rw [np_382]; rfl) (ob_of (mk_61 _)) (Nat.le_of_ble_eq_true rfl) (c2  ) ?_
  show Bod _ _ _ _ [] _ _ _
  refine Bod.go dc_387_267 rfl ?_
  refine Bod.get dc_387_268 fr_387_531 (mk_thing ag (by first | exact hz2 | (simp only [rIS, rJS, rAS, rLS, rVS, rQS, rS_hold]; exact hz2))) rfl ?_
  refine Bod.eqI (nI fd01) (by first | assumption | (simp (disch := omega) only [rIn, rIe, rA, rIA, rLA, rJA, rVI, rQI, rVA, rQA, upd_at,  rAI, rLI, rJI, nI_add, pk_sub, kc_0, kc_1, kc_2, kc_3, kc_4, kc_5, reduceIte, Nat.reduceEqDiff, Nat.add_zero, rI_hold, rI_hold, rL_hold, hfd0, hfd01]; done) | (simp (disch := omega) only [rIn, rIe, rA, rIA, rLA, rJA, rVI, rQI, rVA, rQA, upd_at,  rAI, rLI, rJI, nI_add, pk_sub, kc_0, kc_1, kc_2, kc_3, kc_4, kc_5, reduceIte, Nat.reduceEqDiff, Nat.add_zero, rI_hold, rI_hold, rL_hold, hfd0, hfd01]; exact congrArg nI (by omega))) ?_
  refine Bod.ic 5 (by decide) dc_387_271 ?_
  refine Bod.icF dc_387_272 rfl (k2_eq_F (k_ne fd01 5 rfl rfl (by omega) (by omega) (by omega))) ?_
  refine Bod.go dc_387_275 rfl ?_
  refine Bod.get dc_387_276 fr_387_531 (mk_thing ag (by first | exact hz2 | (simp only [rIS, rJS, rAS, rLS, rVS, rQS, rS_hold]; exact hz2))) rfl ?_
  refine Bod.eqI (nI fd01) (by first | assumption | (simp (disch := omega) only [rIn, rIe, rA, rIA, rLA, rJA, rVI, rQI, rVA, rQA, upd_at,  rAI, rLI, rJI, nI_add, pk_sub, kc_0, kc_1, kc_2, kc_3, kc_4, kc_5, reduceIte, Nat.reduceEqDiff, Nat.add_zero, rI_hold, rI_hold, rL_hold, hfd0, hfd01]; done) | (simp (disch := omega) only [rIn, rIe, rA, rIA, rLA, rJA, rVI, rQI, rVA, rQA, upd_at,  rAI, rLI, rJI, nI_add, pk_sub, kc_0, kc_1, kc_2, kc_3, kc_4, kc_5, reduceIte, Nat.reduceEqDiff, Nat.add_zero, rI_hold, rI_hold, rL_hold, hfd0, hfd01]; exact congrArg nI (by omega))) ?_
  refine Bod.bip 6 (by decide) dc_387_279 ?_
  refine Bod.icT dc_387_281 rfl (k2_ne_T (k_ne fd01 6 rfl rfl (by omega) (by omega) (by omega))) ?_
  refine Bod.go dc_387_299 rfl ?_
  refine Bod.get dc_387_300 fr_387_694 (mk_thing ag (by first | exact hz2 | (simp only [rIS, rJS, rAS, rLS, rVS, rQS, rS_hold]; exact hz2))) rfl ?_
  refine Bod.eqI (nI fd10) (by first | assumption | (simp (disch := omega) only [rIn, rIe, rA, rIA, rLA, rJA, rVI, rQI, rVA, rQA, upd_at,  rAI, rLI, rJI, nI_add, pk_sub, kc_0, kc_1, kc_2, kc_3, kc_4, kc_5, reduceIte, Nat.reduceEqDiff, Nat.add_zero, rI_hold, rI_hold, rL_hold, hfd0, hfd01, hfd10]; done) | (simp (disch := omega) only [rIn, rIe, rA, rIA, rLA, rJA, rVI, rQI, rVA, rQA, upd_at,  rAI, rLI, rJI, nI_add, pk_sub, kc_0, kc_1, kc_2, kc_3, kc_4, kc_5, reduceIte, Nat.reduceEqDiff, Nat.add_zero, rI_hold, rI_hold, rL_hold, hfd0, hfd01, hfd10]; exact congrArg nI (by omega))) ?_
  refine Bod.istn dc_387_303 (by rw [ml_387]; exact Nat.le_of_ble_eq_true rfl) ?_
  refine Bod.ic 0 (by decide) dc_387_304 ?_
  refine Bod.ist dc_387_305 (by rw [ml_387]; exact Nat.le_of_ble_eq_true rfl) ?_
  exact hB _ (by first | rfl | exact (by repeat (first | exact rfl | exact sm_get_p1 | exact sm_get_p2e | refine sm_get_p1m (by decide) (by decide) ?_ | refine sm_get_p1n (by decide) rfl ?_ | refine sm_get_p2n (by decide) (by decide) rfl ?_ | refine sm_get_p2m (by decide) (by decide) (by decide) ?_))) (by first | rfl | exact (by repeat (first | exact rfl | exact sm_get_p1 | exact sm_get_p2e | refine sm_get_p1m (by decide) (by decide) ?_ | refine sm_get_p1n (by decide) rfl ?_ | refine sm_get_p2n (by decide) (by decide) rfl ?_ | refine sm_get_p2m (by decide) (by decide) (by decide) ?_))) (by first | rfl | exact (by repeat (first | exact rfl | exact sm_get_p1 | exact sm_get_p2e | refine sm_get_p1m (by decide) (by decide) ?_ | refine sm_get_p1n (by decide) rfl ?_ | refine sm_get_p2n (by decide) (by decide) rfl ?_ | refine sm_get_p2m (by decide) (by decide) (by decide) ?_)))
theorem rSt0_12 {d : Nat} {S Sf : cS} {v : Option Value} {g : Nat} {zg : Nat} {fd0 : Nat} {S1 : cS} {S2 : cS} {fd01 : Nat} {fd11 : Nat} {g : Nat} {zg : Nat} {fd10 : Nat} (ag : 108 ≤ g) (hz1 : (sS S)[g - 108]? = some (13, zg)) (hfd0 : sI S (100 * g + 0) = nI fd0) (mfd0 : fd0 < 2 ^ 20) (b1 : fd0 ≠ 1) (b2 : fd0 ≠ 2) (b3 : fd0 = 3) (c1 : Ans (d + 8) 384 [.ref 61, .retAddr (2 * 47)] S none S1) (c2 : Ans (d + 8) 382 [.ref 61, .int (nI 32)] S1 none S2) (hz2 : (sS S2)[g - 108]? = some (13, zg)) (hfd01 : sI S2 (100 * g + 0) = nI fd01) (mfd01 : fd01 < 2 ^ 20) (b4 : fd01 ≠ 5) (b5 : fd01 = 6) (hfd11 : sI S2 (100 * g + 11) = nI fd11) (mfd11 : fd11 < 2 ^ 20) (b6 : fd11 < 1500) (ag : 108 ≤ g) (hq4 : sQ S2 86 fd11 = some g) (hfd10 : sI S2 (100 * g + 10) = nI fd10) (mfd10 : fd10 < 2 ^ 20) (hB : ∀ lv1 : sm_L, sm_get lv1 0 = some (.ref 61) → sm_get lv1 3 = some (.int (nI fd10)) → sm_get lv1 4 = some (.int (nI 0)) → Bod (d + 8) 387 307 lv1 [] (S2) v Sf) : Bod (d + 8) 387 0 [(0, .ref 61), (1, .ref g), (2, .int (nI 0))] [] S v Sf := by
  refine Bod.go dc_387_0 rfl ?_
  refine Bod.ifF dc_387_1 rfl (k1_ne_F (k_eq 0 0 rfl rfl (by omega))) ?_
  refine Bod.go dc_387_4 rfl ?_
  refine Bod.get dc_387_5 fr_387_531 (mk_thing ag (by first | exact hz1 | (simp only [rIS, rJS, rAS, rLS, rVS, rQS, rS_hold]; exact hz1))) rfl ?_
  refine Bod.eqI (nI fd0) (by first | assumption | rfl | exact congrArg nI (by omega) | (simp (disch := omega) only [rIn, rIe, rA, rIA, rLA, rJA, rVI, rQI, rVA, rQA, upd_at,  rAI, rLI, rJI, nI_add, pk_sub, kc_0, kc_1, kc_2, kc_3, kc_4, kc_5, reduceIte, Nat.reduceEqDiff, Nat.add_zero, rI_hold, rI_hold, rL_hold, hfd0]; done)) ?_
  refine Bod.ic 1 (by decide) dc_387_8 ?_
  refine Bod.icT dc_387_9 rfl (k2_ne_T (k_ne fd0 1 rfl rfl (by omega) (by omega) (by omega))) ?_
  refine Bod.go dc_387_75 rfl ?_
  refine Bod.ifF dc_387_76 rfl (k1_ne_F (k_eq 0 0 rfl rfl (by omega))) ?_
  refine Bod.go dc_387_79 rfl ?_
  refine Bod.get dc_387_80 fr_387_531 (mk_thing ag (by first | exact hz1 | (simp only [rIS, rJS, rAS, rLS, rVS, rQS, rS_hold]; exact hz1))) rfl ?_
  refine Bod.eqI (nI fd0) (by first | assumption | rfl | exact congrArg nI (by omega) | (simp (disch := omega) only [rIn, rIe, rA, rIA, rLA, rJA, rVI, rQI, rVA, rQA, upd_at,  rAI, rLI, rJI, nI_add, pk_sub, kc_0, kc_1, kc_2, kc_3, kc_4, kc_5, reduceIte, Nat.reduceEqDiff, Nat.add_zero, rI_hold, rI_hold, rL_hold, hfd0]; done)) ?_
  refine Bod.ic 2 (by decide) dc_387_83 ?_
  refine Bod.icT dc_387_84 rfl (k2_ne_T (k_ne fd0 2 rfl rfl (by omega) (by omega) (by omega))) ?_
  refine Bod.go dc_387_180 rfl ?_
  refine Bod.go dc_387_181 rfl ?_
  refine Bod.get dc_387_182 fr_387_531 (mk_thing ag (by first | exact hz1 | (simp only [rIS, rJS, rAS, rLS, rVS, rQS, rS_hold]; exact hz1))) rfl ?_
  refine Bod.eqI (nI fd0) (by first | assumption | rfl | exact congrArg nI (by omega) | (simp (disch := omega) only [rIn, rIe, rA, rIA, rLA, rJA, rVI, rQI, rVA, rQA, upd_at,  rAI, rLI, rJI, nI_add, pk_sub, kc_0, kc_1, kc_2, kc_3, kc_4, kc_5, reduceIte, Nat.reduceEqDiff, Nat.add_zero, rI_hold, rI_hold, rL_hold, hfd0]; done)) ?_
  refine Bod.ic 1 (by decide) dc_387_185 ?_
  refine Bod.icT dc_387_186 rfl (k2_ne_T (k_ne fd0 1 rfl rfl (by omega) (by omega) (by omega))) ?_
  refine Bod.go dc_387_195 rfl ?_
  refine Bod.get dc_387_196 fr_387_531 (mk_thing ag (by first | exact hz1 | (simp only [rIS, rJS, rAS, rLS, rVS, rQS, rS_hold]; exact hz1))) rfl ?_
  refine Bod.eqI (nI fd0) (by first | assumption | rfl | exact congrArg nI (by omega) | (simp (disch := omega) only [rIn, rIe, rA, rIA, rLA, rJA, rVI, rQI, rVA, rQA, upd_at,  rAI, rLI, rJI, nI_add, pk_sub, kc_0, kc_1, kc_2, kc_3, kc_4, kc_5, reduceIte, Nat.reduceEqDiff, Nat.add_zero, rI_hold, rI_hold, rL_hold, hfd0]; done)) ?_
  refine Bod.ic 2 (by decide) dc_387_199 ?_
  refine Bod.icT dc_387_200 rfl (k2_ne_T (k_ne fd0 2 rfl rfl (by omega) (by omega) (by omega))) ?_
  refine Bod.go dc_387_209 rfl ?_
  refine Bod.get dc_387_210 fr_387_531 (mk_thing ag (by first | exact hz1 | (simp only [rIS, rJS, rAS, rLS, rVS, rQS, rS_hold]; exact hz1))) rfl ?_
  refine Bod.eqI (nI fd0) (by first | assumption | rfl | exact congrArg nI (by omega) | (simp (disch := omega) only [rIn, rIe, rA, rIA, rLA, rJA, rVI, rQI, rVA, rQA, upd_at,  rAI, rLI, rJI, nI_add, pk_sub, kc_0, kc_1, kc_2, kc_3, kc_4, kc_5, reduceIte, Nat.reduceEqDiff, Nat.add_zero, rI_hold, rI_hold, rL_hold, hfd0]; done)) ?_
  refine Bod.ic 3 (by decide) dc_387_213 ?_
  refine Bod.icF dc_387_214 rfl (k2_ne_F (k_eq fd0 3 rfl rfl (by omega))) ?_
  refine Bod.ldcW dc_387_217 cs_387_840 ?_
  refine Bod.go dc_387_220 rfl ?_
  refine Bod.virt (r := []) dc_387_254 kr_387_821 ⟨Or.inl rfl, ow_384, cl_14⟩ (by rw [np_384]; rfl) (by rw [np_384]; rfl) (ob_of (mk_61 _)) (Nat.le_of_ble_eq_true rfl) (c1  ) ?_
  show Bod _ _ _ _ [] _ _ _
  refine Bod.go dc_387_257 rfl ?_
  refine Bod.ifF dc_387_258 rfl (k1_ne_F (k_eq 0 0 rfl rfl (by omega))) ?_
  refine Bod.go dc_387_261 rfl ?_
  refine Bod.bip 32 (by decide) dc_387_262 ?_
  refine Bod.virt (r := []) dc_387_264 kr_387_818 ⟨Or.inl rfl, ow_382, cl_14⟩ (by rw [np_382]; rfl) (by rw [np_382]; rfl) (ob_of (mk_61 _)) (Nat.le_of_ble_eq_true rfl) (c2  ) ?_
  show Bod _ _ _ _ [] _ _ _
  refine Bod.go dc_387_267 rfl ?_
  refine Bod.get dc_387_268 fr_387_531 (mk_thing ag (by first | exact hz2 | (simp only [rIS, rJS, rAS, rLS, rVS, rQS, rS_hold]; exact hz2))) rfl ?_
  refine Bod.eqI (nI fd01) (by first | assumption | (simp (disch := omega) only [rIn, rIe, rA, rIA, rLA, rJA, rVI, rQI, rVA, rQA, upd_at,  rAI, rLI, rJI, nI_add, pk_sub, kc_0, kc_1, kc_2, kc_3, kc_4, kc_5, reduceIte, Nat.reduceEqDiff, Nat.add_zero, rI_hold, rI_hold, rL_hold, hfd0, hfd01]; done) | (simp (disch := omega) only [rIn, rIe, rA, rIA, rLA, rJA, rVI, rQI, rVA, rQA, upd_at,  rAI, rLI, rJI, nI_add, pk_sub, kc_0, kc_1, kc_2, kc_3, kc_4, kc_5, reduceIte, Nat.reduceEqDiff, Nat.add_zero, rI_hold, rI_hold, rL_hold, hfd0, hfd01]; exact congrArg nI (by omega))) ?_
  refine Bod.ic 5 (by decide) dc_387_271 ?_
  refine Bod.icF dc_387_272 rfl (k2_eq_F (k_ne fd01 5 rfl rfl (by omega) (by omega) (by omega))) ?_
  refine Bod.go dc_387_275 rfl ?_
  refine Bod.get dc_387_276 fr_387_531 (mk_thing ag (by first | exact hz2 | (simp only [rIS, rJS, rAS, rLS, rVS, rQS, rS_hold]; exact hz2))) rfl ?_
  refine Bod.eqI (nI fd01) (by first | assumption | (simp (disch := omega) only [rIn, rIe, rA, rIA, rLA, rJA, rVI, rQI, rVA, rQA, upd_at,  rAI, rLI, rJI, nI_add, pk_sub, kc_0, kc_1, kc_2, kc_3, kc_4, kc_5, reduceIte, Nat.reduceEqDiff, Nat.add_zero, rI_hold, rI_hold, rL_hold, hfd0, hfd01]; done) | (simp (disch := omega) only [rIn, rIe, rA, rIA, rLA, rJA, rVI, rQI, rVA, rQA, upd_at,  rAI, rLI, rJI, nI_add, pk_sub, kc_0, kc_1, kc_2, kc_3, kc_4, kc_5, reduceIte, Nat.reduceEqDiff, Nat.add_zero, rI_hold, rI_hold, rL_hold, hfd0, hfd01]; exact congrArg nI (by omega))) ?_
  refine Bod.bip 6 (by decide) dc_387_279 ?_
  refine Bod.icF dc_387_281 rfl (k2_ne_F (k_eq fd01 6 rfl rfl (by omega))) ?_
  refine Bod.go dc_387_284 rfl ?_
  refine Bod.get dc_387_285 fr_387_485 (mk_61 _) rfl ?_
  refine Bod.go dc_387_288 rfl ?_
  refine Bod.get dc_387_289 fr_387_472 (mk_thing ag (by first | exact hz2 | (simp only [rIS, rJS, rAS, rLS, rVS, rQS, rS_hold]; exact hz2))) rfl ?_
  refine Bod.eqI (nI fd11) (by first | assumption | (simp (disch := omega) only [rIn, rIe, rA, rIA, rLA, rJA, rVI, rQI, rVA, rQA, upd_at,  rAI, rLI, rJI, nI_add, pk_sub, kc_0, kc_1, kc_2, kc_3, kc_4, kc_5, reduceIte, Nat.reduceEqDiff, Nat.add_zero, rI_hold, rI_hold, rL_hold, hfd0, hfd01, hfd11]; done) | (simp (disch := omega) only [rIn, rIe, rA, rIA, rLA, rJA, rVI, rQI, rVA, rQA, upd_at,  rAI, rLI, rJI, nI_add, pk_sub, kc_0, kc_1, kc_2, kc_3, kc_4, kc_5, reduceIte, Nat.reduceEqDiff, Nat.add_zero, rI_hold, rI_hold, rL_hold, hfd0, hfd01, hfd11]; exact congrArg nI (by omega))) ?_
  refine Bod.aaldR (N := 1500) (b := g) fd11 rfl (by omega) (by omega) (by first | exact hq4 | (simp only [rIQ, rJQ, rAQ, rLQ, rVQ, rQ_holdE]; exact hq4)) dc_387_292 (mk_86 _) ht_5 ?_
  refine Bod.get dc_387_293 fr_387_694 (mk_thing ag (by first | exact hz2 | (simp only [rIS, rJS, rAS, rLS, rVS, rQS, rS_hold]; exact hz2))) rfl ?_
  refine Bod.eqI (nI fd10) (by first | assumption | (simp (disch := omega) only [rIn, rIe, rA, rIA, rLA, rJA, rVI, rQI, rVA, rQA, upd_at,  rAI, rLI, rJI, nI_add, pk_sub, kc_0, kc_1, kc_2, kc_3, kc_4, kc_5, reduceIte, Nat.reduceEqDiff, Nat.add_zero, rI_hold, rI_hold, rL_hold, hfd0, hfd01, hfd11, hfd10]; done) | (simp (disch := omega) only [rIn, rIe, rA, rIA, rLA, rJA, rVI, rQI, rVA, rQA, upd_at,  rAI, rLI, rJI, nI_add, pk_sub, kc_0, kc_1, kc_2, kc_3, kc_4, kc_5, reduceIte, Nat.reduceEqDiff, Nat.add_zero, rI_hold, rI_hold, rL_hold, hfd0, hfd01, hfd11, hfd10]; exact congrArg nI (by omega))) ?_
  refine Bod.go dc_387_296 rfl ?_
  refine Bod.istn dc_387_303 (by rw [ml_387]; exact Nat.le_of_ble_eq_true rfl) ?_
  refine Bod.ic 0 (by decide) dc_387_304 ?_
  refine Bod.ist dc_387_305 (by rw [ml_387]; exact Nat.le_of_ble_eq_true rfl) ?_
  exact hB _ (by first | rfl | exact (by repeat (first | exact rfl | exact sm_get_p1 | exact sm_get_p2e | refine sm_get_p1m (by decide) (by decide) ?_ | refine sm_get_p1n (by decide) rfl ?_ | refine sm_get_p2n (by decide) (by decide) rfl ?_ | refine sm_get_p2m (by decide) (by decide) (by decide) ?_))) (by first | rfl | exact (by repeat (first | exact rfl | exact sm_get_p1 | exact sm_get_p2e | refine sm_get_p1m (by decide) (by decide) ?_ | refine sm_get_p1n (by decide) rfl ?_ | refine sm_get_p2n (by decide) (by decide) rfl ?_ | refine sm_get_p2m (by decide) (by decide) (by decide) ?_))) (by first | rfl | exact (by repeat (first | exact rfl | exact sm_get_p1 | exact sm_get_p2e | refine sm_get_p1m (by decide) (by decide) ?_ | refine sm_get_p1n (by decide) rfl ?_ | refine sm_get_p2n (by decide) (by decide) rfl ?_ | refine sm_get_p2m (by decide) (by decide) (by decide) ?_)))
theorem rSt0_13 {d : Nat} {S Sf : cS} {v : Option Value} {g : Nat} {zg : Nat} {fd0 : Nat} {S1 : cS} (ag : 108 ≤ g) (hz1 : (sS S)[g - 108]? = some (13, zg)) (hfd0 : sI S (100 * g + 0) = nI fd0) (mfd0 : fd0 < 2 ^ 20) (b1 : fd0 ≠ 1) (b2 : fd0 = 2) (c1 : Ans (d + 8) 382 [.ref 61, .int (nI 123)] S none S1) (hB : ∀ lv1 : sm_L, sm_get lv1 0 = some (.ref 61) → sm_get lv1 1 = some (.ref g) → sm_get lv1 2 = some (.int (nI 0)) → sm_get lv1 3 = some (.int (nI 0)) → Bod (d + 8) 387 95 lv1 [] (S1) v Sf) : Bod (d + 8) 387 0 [(0, .ref 61), (1, .ref g), (2, .int (nI 0))] [] S v Sf := by
  refine Bod.go dc_387_0 rfl ?_
  refine Bod.ifF dc_387_1 rfl (k1_ne_F (k_eq 0 0 rfl rfl (by omega))) ?_
  refine Bod.go dc_387_4 rfl ?_
  refine Bod.get dc_387_5 fr_387_531 (mk_thing ag (by first | exact hz1 | (simp only [rIS, rJS, rAS, rLS, rVS, rQS, rS_hold]; exact hz1))) rfl ?_
  refine Bod.eqI (nI fd0) (by first | assumption | rfl | exact congrArg nI (by omega) | (simp (disch := omega) only [rIn, rIe, rA, rIA, rLA, rJA, rVI, rQI, rVA, rQA, upd_at,  rAI, rLI, rJI, nI_add, pk_sub, kc_0, kc_1, kc_2, kc_3, kc_4, kc_5, reduceIte, Nat.reduceEqDiff, Nat.add_zero, rI_hold, rI_hold, rL_hold, hfd0]; done)) ?_
  refine Bod.ic 1 (by decide) dc_387_8 ?_
  refine Bod.icT dc_387_9 rfl (k2_ne_T (k_ne fd0 1 rfl rfl (by omega) (by omega) (by omega))) ?_
  refine Bod.go dc_387_75 rfl ?_
  refine Bod.ifF dc_387_76 rfl (k1_ne_F (k_eq 0 0 rfl rfl (by omega))) ?_
  refine Bod.go dc_387_79 rfl ?_
  refine Bod.get dc_387_80 fr_387_531 (mk_thing ag (by first | exact hz1 | (simp only [rIS, rJS, rAS, rLS, rVS, rQS, rS_hold]; exact hz1))) rfl ?_
  refine Bod.eqI (nI fd0) (by first | assumption | rfl | exact congrArg nI (by omega) | (simp (disch := omega) only [rIn, rIe, rA, rIA, rLA, rJA, rVI, rQI, rVA, rQA, upd_at,  rAI, rLI, rJI, nI_add, pk_sub, kc_0, kc_1, kc_2, kc_3, kc_4, kc_5, reduceIte, Nat.reduceEqDiff, Nat.add_zero, rI_hold, rI_hold, rL_hold, hfd0]; done)) ?_
  refine Bod.ic 2 (by decide) dc_387_83 ?_
  refine Bod.icF dc_387_84 rfl (k2_ne_F (k_eq fd0 2 rfl rfl (by omega))) ?_
  refine Bod.go dc_387_87 rfl ?_
  refine Bod.bip 123 (by decide) dc_387_88 ?_
  refine Bod.virt (r := []) dc_387_90 kr_387_818 ⟨Or.inl rfl, ow_382, cl_14⟩ (by rw [np_382]; rfl) (by rw [np_382]; rfl) (ob_of (mk_61 _)) (Nat.le_of_ble_eq_true rfl) (c1  ) ?_
  show Bod _ _ _ _ [] _ _ _
  refine Bod.ic 0 (by decide) dc_387_93 ?_
  refine Bod.istn dc_387_94 (by rw [ml_387]; exact Nat.le_of_ble_eq_true rfl) ?_
  exact hB _ (by first | rfl | exact (by repeat (first | exact rfl | exact sm_get_p1 | exact sm_get_p2e | refine sm_get_p1m (by decide) (by decide) ?_ | refine sm_get_p1n (by decide) rfl ?_ | refine sm_get_p2n (by decide) (by decide) rfl ?_ | refine sm_get_p2m (by decide) (by decide) (by decide) ?_))) (by first | rfl | exact (by repeat (first | exact rfl | exact sm_get_p1 | exact sm_get_p2e | refine sm_get_p1m (by decide) (by decide) ?_ | refine sm_get_p1n (by decide) rfl ?_ | refine sm_get_p2n (by decide) (by decide) rfl ?_ | refine sm_get_p2m (by decide) (by decide) (by decide) ?_))) (by first | rfl | exact (by repeat (first | exact rfl | exact sm_get_p1 | exact sm_get_p2e | refine sm_get_p1m (by decide) (by decide) ?_ | refine sm_get_p1n (by decide) rfl ?_ | refine sm_get_p2n (by decide) (by decide) rfl ?_ | refine sm_get_p2m (by decide) (by decide) (by decide) ?_))) (by first | rfl | exact (by repeat (first | exact rfl | exact sm_get_p1 | exact sm_get_p2e | refine sm_get_p1m (by decide) (by decide) ?_ | refine sm_get_p1n (by decide) rfl ?_ | refine sm_get_p2n (by decide) (by decide) rfl ?_ | refine sm_get_p2m (by decide) (by decide) (by decide) ?_)))
theorem rSt0_14 {d : Nat} {S Sf : cS} {v : Option Value} {g : Nat} {zg : Nat} {fd0 : Nat} {S1 : cS} (ag : 108 ≤ g) (hz1 : (sS S)[g - 108]? = some (13, zg)) (hfd0 : sI S (100 * g + 0) = nI fd0) (mfd0 : fd0 < 2 ^ 20) (b1 : fd0 = 1) (c1 : Ans (d + 8) 382 [.ref 61, .int (nI 91)] S none S1) (hB : ∀ lv1 : sm_L, sm_get lv1 0 = some (.ref 61) → sm_get lv1 1 = some (.ref g) → sm_get lv1 2 = some (.int (nI 0)) → sm_get lv1 3 = some (.int (nI 0)) → Bod (d + 8) 387 20 lv1 [] (S1) v Sf) : Bod (d + 8) 387 0 [(0, .ref 61), (1, .ref g), (2, .int (nI 0))] [] S v Sf := by
  refine Bod.go dc_387_0 rfl ?_
  refine Bod.ifF dc_387_1 rfl (k1_ne_F (k_eq 0 0 rfl rfl (by omega))) ?_
  refine Bod.go dc_387_4 rfl ?_
  refine Bod.get dc_387_5 fr_387_531 (mk_thing ag (by first | exact hz1 | (simp only [rIS, rJS, rAS, rLS, rVS, rQS, rS_hold]; exact hz1))) rfl ?_
  refine Bod.eqI (nI fd0) (by first | assumption | rfl | exact congrArg nI (by omega) | (simp (disch := omega) only [rIn, rIe, rA, rIA, rLA, rJA, rVI, rQI, rVA, rQA, upd_at,  rAI, rLI, rJI, nI_add, pk_sub, kc_0, kc_1, kc_2, kc_3, kc_4, kc_5, reduceIte, Nat.reduceEqDiff, Nat.add_zero, rI_hold, rI_hold, rL_hold, hfd0]; done)) ?_
  refine Bod.ic 1 (by decide) dc_387_8 ?_
  refine Bod.icF dc_387_9 rfl (k2_ne_F (k_eq fd0 1 rfl rfl (by omega))) ?_
  refine Bod.go dc_387_12 rfl ?_
  refine Bod.bip 91 (by decide) dc_387_13 ?_
  refine Bod.virt (r := []) dc_387_15 kr_387_818 ⟨Or.inl rfl, ow_382, cl_14⟩ (by rw [np_382]; rfl) (by rw [np_382]; rfl) (ob_of (mk_61 _)) (Nat.le_of_ble_eq_true rfl) (c1  ) ?_
  show Bod _ _ _ _ [] _ _ _
  refine Bod.ic 0 (by decide) dc_387_18 ?_
  refine Bod.istn dc_387_19 (by rw [ml_387]; exact Nat.le_of_ble_eq_true rfl) ?_
  exact hB _ (by first | rfl | exact (by repeat (first | exact rfl | exact sm_get_p1 | exact sm_get_p2e | refine sm_get_p1m (by decide) (by decide) ?_ | refine sm_get_p1n (by decide) rfl ?_ | refine sm_get_p2n (by decide) (by decide) rfl ?_ | refine sm_get_p2m (by decide) (by decide) (by decide) ?_))) (by first | rfl | exact (by repeat (first | exact rfl | exact sm_get_p1 | exact sm_get_p2e | refine sm_get_p1m (by decide) (by decide) ?_ | refine sm_get_p1n (by decide) rfl ?_ | refine sm_get_p2n (by decide) (by decide) rfl ?_ | refine sm_get_p2m (by decide) (by decide) (by decide) ?_))) (by first | rfl | exact (by repeat (first | exact rfl | exact sm_get_p1 | exact sm_get_p2e | refine sm_get_p1m (by decide) (by decide) ?_ | refine sm_get_p1n (by decide) rfl ?_ | refine sm_get_p2n (by decide) (by decide) rfl ?_ | refine sm_get_p2m (by decide) (by decide) (by decide) ?_))) (by first | rfl | exact (by repeat (first | exact rfl | exact sm_get_p1 | exact sm_get_p2e | refine sm_get_p1m (by decide) (by decide) ?_ | refine sm_get_p1n (by decide) rfl ?_ | refine sm_get_p2n (by decide) (by decide) rfl ?_ | refine sm_get_p2m (by decide) (by decide) (by decide) ?_)))
theorem rSt1_1 {d : Nat} {S : cS} {g : Nat} {zg : Nat} {fd0 : Nat} {S1 : cS} {S2 : cS} (ag : 108 ≤ g) (hz1 : (sS S)[g - 108]? = some (13, zg)) (hfd0 : sI S (100 * g + 0) = nI fd0) (mfd0 : fd0 < 2 ^ 20) (b1 : fd0 ≠ 1) (b2 : fd0 ≠ 2) (b3 : fd0 ≠ 3) (b4 : fd0 ≠ 4) (b5 : fd0 ≠ 5) (c1 : Ans (d + 8) 384 [.ref 61, .retAddr (2 * 50)] S none S1) (c2 : Ans (d + 8) 382 [.ref 61, .int (nI 62)] S1 none S2) : Bod (d + 8) 387 0 [(0, .ref 61), (1, .ref g), (2, .int (nI 1))] [] S none (S2) := by
  refine Bod.go dc_387_0 rfl ?_
  refine Bod.ifT dc_387_1 rfl (k1_ne_T (k_ne 1 0 rfl rfl (by omega) (by omega) (by omega))) ?_
  refine Bod.go dc_387_75 rfl ?_
  refine Bod.ifT dc_387_76 rfl (k1_ne_T (k_ne 1 0 rfl rfl (by omega) (by omega) (by omega))) ?_
  refine Bod.go dc_387_180 rfl ?_
  refine Bod.go dc_387_181 rfl ?_
  refine Bod.get dc_387_182 fr_387_531 (mk_thing ag (by first | exact hz1 | (simp only [rIS, rJS, rAS, rLS, rVS, rQS, rS_hold]; exact hz1))) rfl ?_
  refine Bod.eqI (nI fd0) (by first | assumption | rfl | exact congrArg nI (by omega) | (simp (disch := omega) only [rIn, rIe, rA, rIA, rLA, rJA, rVI, rQI, rVA, rQA, upd_at,  rAI, rLI, rJI, nI_add, pk_sub, kc_0, kc_1, kc_2, kc_3, kc_4, kc_5, reduceIte, Nat.reduceEqDiff, Nat.add_zero, rI_hold, rI_hold, rL_hold, hfd0]; done)) ?_
  refine Bod.ic 1 (by decide) dc_387_185 ?_
  refine Bod.icT dc_387_186 rfl (k2_ne_T (k_ne fd0 1 rfl rfl (by omega) (by omega) (by omega))) ?_
  refine Bod.go dc_387_195 rfl ?_
  refine Bod.get dc_387_196 fr_387_531 (mk_thing ag (by first | exact hz1 | (simp only [rIS, rJS, rAS, rLS, rVS, rQS, rS_hold]; exact hz1))) rfl ?_
  refine Bod.eqI (nI fd0) (by first | assumption | rfl | exact congrArg nI (by omega) | (simp (disch := omega) only [rIn, rIe, rA, rIA, rLA, rJA, rVI, rQI, rVA, rQA, upd_at,  rAI, rLI, rJI, nI_add, pk_sub, kc_0, kc_1, kc_2, kc_3, kc_4, kc_5, reduceIte, Nat.reduceEqDiff, Nat.add_zero, rI_hold, rI_hold, rL_hold, hfd0]; done)) ?_
  refine Bod.ic 2 (by decide) dc_387_199 ?_
  refine Bod.icT dc_387_200 rfl (k2_ne_T (k_ne fd0 2 rfl rfl (by omega) (by omega) (by omega))) ?_
  refine Bod.go dc_387_209 rfl ?_
  refine Bod.get dc_387_210 fr_387_531 (mk_thing ag (by first | exact hz1 | (simp only [rIS, rJS, rAS, rLS, rVS, rQS, rS_hold]; exact hz1))) rfl ?_
  refine Bod.eqI (nI fd0) (by first | assumption | rfl | exact congrArg nI (by omega) | (simp (disch := omega) only [rIn, rIe, rA, rIA, rLA, rJA, rVI, rQI, rVA, rQA, upd_at,  rAI, rLI, rJI, nI_add, pk_sub, kc_0, kc_1, kc_2, kc_3, kc_4, kc_5, reduceIte, Nat.reduceEqDiff, Nat.add_zero, rI_hold, rI_hold, rL_hold, hfd0]; done)) ?_
  refine Bod.ic 3 (by decide) dc_387_213 ?_
  refine Bod.icT dc_387_214 rfl (k2_ne_T (k_ne fd0 3 rfl rfl (by omega) (by omega) (by omega))) ?_
  refine Bod.go dc_387_223 rfl ?_
  refine Bod.get dc_387_224 fr_387_531 (mk_thing ag (by first | exact hz1 | (simp only [rIS, rJS, rAS, rLS, rVS, rQS, rS_hold]; exact hz1))) rfl ?_
  refine Bod.eqI (nI fd0) (by first | assumption | rfl | exact congrArg nI (by omega) | (simp (disch := omega) only [rIn, rIe, rA, rIA, rLA, rJA, rVI, rQI, rVA, rQA, upd_at,  rAI, rLI, rJI, nI_add, pk_sub, kc_0, kc_1, kc_2, kc_3, kc_4, kc_5, reduceIte, Nat.reduceEqDiff, Nat.add_zero, rI_hold, rI_hold, rL_hold, hfd0]; done)) ?_
  refine Bod.ic 4 (by decide) dc_387_227 ?_
  refine Bod.icT dc_387_228 rfl (k2_ne_T (k_ne fd0 4 rfl rfl (by omega) (by omega) (by omega))) ?_
  refine Bod.go dc_387_237 rfl ?_
  refine Bod.get dc_387_238 fr_387_531 (mk_thing ag (by first | exact hz1 | (simp only [rIS, rJS, rAS, rLS, rVS, rQS, rS_hold]; exact hz1))) rfl ?_
  refine Bod.eqI (nI fd0) (by first | assumption | rfl | exact congrArg nI (by omega) | (simp (disch := omega) only [rIn, rIe, rA, rIA, rLA, rJA, rVI, rQI, rVA, rQA, upd_at,  rAI, rLI, rJI, nI_add, pk_sub, kc_0, kc_1, kc_2, kc_3, kc_4, kc_5, reduceIte, Nat.reduceEqDiff, Nat.add_zero, rI_hold, rI_hold, rL_hold, hfd0]; done)) ?_
  refine Bod.ic 5 (by decide) dc_387_241 ?_
  refine Bod.icT dc_387_242 rfl (k2_ne_T (k_ne fd0 5 rfl rfl (by omega) (by omega) (by omega))) ?_
  refine Bod.ldcW dc_387_251 cs_387_846 ?_
  refine Bod.virt (r := []) dc_387_254 kr_387_821 ⟨Or.inl rfl, ow_384, cl_14⟩ (by rw [np_384]; rfl) (by rw [np_384]; rfl) (ob_of (mk_61 _)) (Nat.le_of_ble_eq_true rfl) (c1  ) ?_
  show Bod _ _ _ _ [] _ _ _
  refine Bod.go dc_387_257 rfl ?_
  refine Bod.ifT dc_387_258 rfl (k1_ne_T (k_ne 1 0 rfl rfl (by omega) (by omega) (by omega))) ?_
  refine Bod.go dc_387_340 rfl ?_
  refine Bod.bip 62 (by decide) dc_387_341 ?_
  refine Bod.virt (r := []) dc_387_343 kr_387_818 ⟨Or.inl rfl, ow_382, cl_14⟩ (by rw [np_382]; rfl) (by rw [np_382]; rfl) (ob_of (mk_61 _)) (Nat.le_of_ble_eq_true rfl) (c2  ) ?_
  show Bod _ _ _ _ [] _ _ _
  exact Bod.retV dc_387_346 rt_387
theorem rSt1_2 {d : Nat} {S : cS} {g : Nat} {zg : Nat} {fd0 : Nat} {S1 : cS} {S2 : cS} (ag : 108 ≤ g) (hz1 : (sS S)[g - 108]? = some (13, zg)) (hfd0 : sI S (100 * g + 0) = nI fd0) (mfd0 : fd0 < 2 ^ 20) (b1 : fd0 ≠ 1) (b2 : fd0 ≠ 2) (b3 : fd0 ≠ 3) (b4 : fd0 ≠ 4) (b5 : fd0 = 5) (c1 : Ans (d + 8) 384 [.ref 61, .retAddr (2 * 49)] S none S1) (c2 : Ans (d + 8) 382 [.ref 61, .int (nI 62)] S1 none S2) : Bod (d + 8) 387 0 [(0, .ref 61), (1, .ref g), (2, .int (nI 1))] [] S none (S2) := by
  refine Bod.go dc_387_0 rfl ?_
  refine Bod.ifT dc_387_1 rfl (k1_ne_T (k_ne 1 0 rfl rfl (by omega) (by omega) (by omega))) ?_
  refine Bod.go dc_387_75 rfl ?_
  refine Bod.ifT dc_387_76 rfl (k1_ne_T (k_ne 1 0 rfl rfl (by omega) (by omega) (by omega))) ?_
  refine Bod.go dc_387_180 rfl ?_
  refine Bod.go dc_387_181 rfl ?_
  refine Bod.get dc_387_182 fr_387_531 (mk_thing ag (by first | exact hz1 | (simp only [rIS, rJS, rAS, rLS, rVS, rQS, rS_hold]; exact hz1))) rfl ?_
  refine Bod.eqI (nI fd0) (by first | assumption | rfl | exact congrArg nI (by omega) | (simp (disch := omega) only [rIn, rIe, rA, rIA, rLA, rJA, rVI, rQI, rVA, rQA, upd_at,  rAI, rLI, rJI, nI_add, pk_sub, kc_0, kc_1, kc_2, kc_3, kc_4, kc_5, reduceIte, Nat.reduceEqDiff, Nat.add_zero, rI_hold, rI_hold, rL_hold, hfd0]; done)) ?_
  refine Bod.ic 1 (by decide) dc_387_185 ?_
  refine Bod.icT dc_387_186 rfl (k2_ne_T (k_ne fd0 1 rfl rfl (by omega) (by omega) (by omega))) ?_
  refine Bod.go dc_387_195 rfl ?_
  refine Bod.get dc_387_196 fr_387_531 (mk_thing ag (by first | exact hz1 | (simp only [rIS, rJS, rAS, rLS, rVS, rQS, rS_hold]; exact hz1))) rfl ?_
  refine Bod.eqI (nI fd0) (by first | assumption | rfl | exact congrArg nI (by omega) | (simp (disch := omega) only [rIn, rIe, rA, rIA, rLA, rJA, rVI, rQI, rVA, rQA, upd_at,  rAI, rLI, rJI, nI_add, pk_sub, kc_0, kc_1, kc_2, kc_3, kc_4, kc_5, reduceIte, Nat.reduceEqDiff, Nat.add_zero, rI_hold, rI_hold, rL_hold, hfd0]; done)) ?_
  refine Bod.ic 2 (by decide) dc_387_199 ?_
  refine Bod.icT dc_387_200 rfl (k2_ne_T (k_ne fd0 2 rfl rfl (by omega) (by omega) (by omega))) ?_
  refine Bod.go dc_387_209 rfl ?_
  refine Bod.get dc_387_210 fr_387_531 (mk_thing ag (by first | exact hz1 | (simp only [rIS, rJS, rAS, rLS, rVS, rQS, rS_hold]; exact hz1))) rfl ?_
  refine Bod.eqI (nI fd0) (by first | assumption | rfl | exact congrArg nI (by omega) | (simp (disch := omega) only [rIn, rIe, rA, rIA, rLA, rJA, rVI, rQI, rVA, rQA, upd_at,  rAI, rLI, rJI, nI_add, pk_sub, kc_0, kc_1, kc_2, kc_3, kc_4, kc_5, reduceIte, Nat.reduceEqDiff, Nat.add_zero, rI_hold, rI_hold, rL_hold, hfd0]; done)) ?_
  refine Bod.ic 3 (by decide) dc_387_213 ?_
  refine Bod.icT dc_387_214 rfl (k2_ne_T (k_ne fd0 3 rfl rfl (by omega) (by omega) (by omega))) ?_
  refine Bod.go dc_387_223 rfl ?_
  refine Bod.get dc_387_224 fr_387_531 (mk_thing ag (by first | exact hz1 | (simp only [rIS, rJS, rAS, rLS, rVS, rQS, rS_hold]; exact hz1))) rfl ?_
  refine Bod.eqI (nI fd0) (by first | assumption | rfl | exact congrArg nI (by omega) | (simp (disch := omega) only [rIn, rIe, rA, rIA, rLA, rJA, rVI, rQI, rVA, rQA, upd_at,  rAI, rLI, rJI, nI_add, pk_sub, kc_0, kc_1, kc_2, kc_3, kc_4, kc_5, reduceIte, Nat.reduceEqDiff, Nat.add_zero, rI_hold, rI_hold, rL_hold, hfd0]; done)) ?_
  refine Bod.ic 4 (by decide) dc_387_227 ?_
  refine Bod.icT dc_387_228 rfl (k2_ne_T (k_ne fd0 4 rfl rfl (by omega) (by omega) (by omega))) ?_
  refine Bod.go dc_387_237 rfl ?_
  refine Bod.get dc_387_238 fr_387_531 (mk_thing ag (by first | exact hz1 | (simp only [rIS, rJS, rAS, rLS, rVS, rQS, rS_hold]; exact hz1))) rfl ?_
  refine Bod.eqI (nI fd0) (by first | assumption | rfl | exact congrArg nI (by omega) | (simp (disch := omega) only [rIn, rIe, rA, rIA, rLA, rJA, rVI, rQI, rVA, rQA, upd_at,  rAI, rLI, rJI, nI_add, pk_sub, kc_0, kc_1, kc_2, kc_3, kc_4, kc_5, reduceIte, Nat.reduceEqDiff, Nat.add_zero, rI_hold, rI_hold, rL_hold, hfd0]; done)) ?_
  refine Bod.ic 5 (by decide) dc_387_241 ?_
  refine Bod.icF dc_387_242 rfl (k2_ne_F (k_eq fd0 5 rfl rfl (by omega))) ?_
  refine Bod.ldcW dc_387_245 cs_387_844 ?_
  refine Bod.go dc_387_248 rfl ?_
  refine Bod.virt (r := []) dc_387_254 kr_387_821 ⟨Or.inl rfl, ow_384, cl_14⟩ (by rw [np_384]; rfl) (by rw [np_384]; rfl) (ob_of (mk_61 _)) (Nat.le_of_ble_eq_true rfl) (c1  ) ?_
  show Bod _ _ _ _ [] _ _ _
  refine Bod.go dc_387_257 rfl ?_
  refine Bod.ifT dc_387_258 rfl (k1_ne_T (k_ne 1 0 rfl rfl (by omega) (by omega) (by omega))) ?_
  refine Bod.go dc_387_340 rfl ?_
  refine Bod.bip 62 (by decide) dc_387_341 ?_
  refine Bod.virt (r := []) dc_387_343 kr_387_818 ⟨Or.inl rfl, ow_382, cl_14⟩ (by rw [np_382]; rfl) (by rw [np_382]; rfl) (ob_of (mk_61 _)) (Nat.le_of_ble_eq_true rfl) (c2  ) ?_
  show Bod _ _ _ _ [] _ _ _
  exact Bod.retV dc_387_346 rt_387
theorem rSt1_3 {d : Nat} {S : cS} {g : Nat} {zg : Nat} {fd0 : Nat} {S1 : cS} {S2 : cS} (ag : 108 ≤ g) (hz1 : (sS S)[g - 108]? = some (13, zg)) (hfd0 : sI S (100 * g + 0) = nI fd0) (mfd0 : fd0 < 2 ^ 20) (b1 : fd0 ≠ 1) (b2 : fd0 ≠ 2) (b3 : fd0 ≠ 3) (b4 : fd0 = 4) (c1 : Ans (d + 8) 384 [.ref 61, .retAddr (2 * 48)] S none S1) (c2 : Ans (d + 8) 382 [.ref 61, .int (nI 62)] S1 none S2) : Bod (d + 8) 387 0 [(0, .ref 61), (1, .ref g), (2, .int (nI 1))] [] S none (S2) := by
  refine Bod.go dc_387_0 rfl ?_
  refine Bod.ifT dc_387_1 rfl (k1_ne_T (k_ne 1 0 rfl rfl (by omega) (by omega) (by omega))) ?_
  refine Bod.go dc_387_75 rfl ?_
  refine Bod.ifT dc_387_76 rfl (k1_ne_T (k_ne 1 0 rfl rfl (by omega) (by omega) (by omega))) ?_
  refine Bod.go dc_387_180 rfl ?_
  refine Bod.go dc_387_181 rfl ?_
  refine Bod.get dc_387_182 fr_387_531 (mk_thing ag (by first | exact hz1 | (simp only [rIS, rJS, rAS, rLS, rVS, rQS, rS_hold]; exact hz1))) rfl ?_
  refine Bod.eqI (nI fd0) (by first | assumption | rfl | exact congrArg nI (by omega) | (simp (disch := omega) only [rIn, rIe, rA, rIA, rLA, rJA, rVI, rQI, rVA, rQA, upd_at,  rAI, rLI, rJI, nI_add, pk_sub, kc_0, kc_1, kc_2, kc_3, kc_4, kc_5, reduceIte, Nat.reduceEqDiff, Nat.add_zero, rI_hold, rI_hold, rL_hold, hfd0]; done)) ?_
  refine Bod.ic 1 (by decide) dc_387_185 ?_
  refine Bod.icT dc_387_186 rfl (k2_ne_T (k_ne fd0 1 rfl rfl (by omega) (by omega) (by omega))) ?_
  refine Bod.go dc_387_195 rfl ?_
  refine Bod.get dc_387_196 fr_387_531 (mk_thing ag (by first | exact hz1 | (simp only [rIS, rJS, rAS, rLS, rVS, rQS, rS_hold]; exact hz1))) rfl ?_
  refine Bod.eqI (nI fd0) (by first | assumption | rfl | exact congrArg nI (by omega) | (simp (disch := omega) only [rIn, rIe, rA, rIA, rLA, rJA, rVI, rQI, rVA, rQA, upd_at,  rAI, rLI, rJI, nI_add, pk_sub, kc_0, kc_1, kc_2, kc_3, kc_4, kc_5, reduceIte, Nat.reduceEqDiff, Nat.add_zero, rI_hold, rI_hold, rL_hold, hfd0]; done)) ?_
  refine Bod.ic 2 (by decide) dc_387_199 ?_
  refine Bod.icT dc_387_200 rfl (k2_ne_T (k_ne fd0 2 rfl rfl (by omega) (by omega) (by omega))) ?_
  refine Bod.go dc_387_209 rfl ?_
  refine Bod.get dc_387_210 fr_387_531 (mk_thing ag (by first | exact hz1 | (simp only [rIS, rJS, rAS, rLS, rVS, rQS, rS_hold]; exact hz1))) rfl ?_
  refine Bod.eqI (nI fd0) (by first | assumption | rfl | exact congrArg nI (by omega) | (simp (disch := omega) only [rIn, rIe, rA, rIA, rLA, rJA, rVI, rQI, rVA, rQA, upd_at,  rAI, rLI, rJI, nI_add, pk_sub, kc_0, kc_1, kc_2, kc_3, kc_4, kc_5, reduceIte, Nat.reduceEqDiff, Nat.add_zero, rI_hold, rI_hold, rL_hold, hfd0]; done)) ?_
  refine Bod.ic 3 (by decide) dc_387_213 ?_
  refine Bod.icT dc_387_214 rfl (k2_ne_T (k_ne fd0 3 rfl rfl (by omega) (by omega) (by omega))) ?_
  refine Bod.go dc_387_223 rfl ?_
  refine Bod.get dc_387_224 fr_387_531 (mk_thing ag (by first | exact hz1 | (simp only [rIS, rJS, rAS, rLS, rVS, rQS, rS_hold]; exact hz1))) rfl ?_
  refine Bod.eqI (nI fd0) (by first | assumption | rfl | exact congrArg nI (by omega) | (simp (disch := omega) only [rIn, rIe, rA, rIA, rLA, rJA, rVI, rQI, rVA, rQA, upd_at,  rAI, rLI, rJI, nI_add, pk_sub, kc_0, kc_1, kc_2, kc_3, kc_4, kc_5, reduceIte, Nat.reduceEqDiff, Nat.add_zero, rI_hold, rI_hold, rL_hold, hfd0]; done)) ?_
  refine Bod.ic 4 (by decide) dc_387_227 ?_
  refine Bod.icF dc_387_228 rfl (k2_ne_F (k_eq fd0 4 rfl rfl (by omega))) ?_
  refine Bod.ldcW dc_387_231 cs_387_842 ?_
  refine Bod.go dc_387_234 rfl ?_
  refine Bod.virt (r := []) dc_387_254 kr_387_821 ⟨Or.inl rfl, ow_384, cl_14⟩ (by rw [np_384]; rfl) (by rw [np_384]; rfl) (ob_of (mk_61 _)) (Nat.le_of_ble_eq_true rfl) (c1  ) ?_
  show Bod _ _ _ _ [] _ _ _
  refine Bod.go dc_387_257 rfl ?_
  refine Bod.ifT dc_387_258 rfl (k1_ne_T (k_ne 1 0 rfl rfl (by omega) (by omega) (by omega))) ?_
  refine Bod.go dc_387_340 rfl ?_
  refine Bod.bip 62 (by decide) dc_387_341 ?_
  refine Bod.virt (r := []) dc_387_343 kr_387_818 ⟨Or.inl rfl, ow_382, cl_14⟩ (by rw [np_382]; rfl) (by rw [np_382]; rfl) (ob_of (mk_61 _)) (Nat.le_of_ble_eq_true rfl) (c2  ) ?_
  show Bod _ _ _ _ [] _ _ _
  exact Bod.retV dc_387_346 rt_387
theorem rSt1_4 {d : Nat} {S : cS} {g : Nat} {zg : Nat} {fd0 : Nat} {S1 : cS} {S2 : cS} (ag : 108 ≤ g) (hz1 : (sS S)[g - 108]? = some (13, zg)) (hfd0 : sI S (100 * g + 0) = nI fd0) (mfd0 : fd0 < 2 ^ 20) (b1 : fd0 ≠ 1) (b2 : fd0 ≠ 2) (b3 : fd0 = 3) (c1 : Ans (d + 8) 384 [.ref 61, .retAddr (2 * 47)] S none S1) (c2 : Ans (d + 8) 382 [.ref 61, .int (nI 62)] S1 none S2) : Bod (d + 8) 387 0 [(0, .ref 61), (1, .ref g), (2, .int (nI 1))] [] S none (S2) := by
  refine Bod.go dc_387_0 rfl ?_
  refine Bod.ifT dc_387_1 rfl (k1_ne_T (k_ne 1 0 rfl rfl (by omega) (by omega) (by omega))) ?_
  refine Bod.go dc_387_75 rfl ?_
  refine Bod.ifT dc_387_76 rfl (k1_ne_T (k_ne 1 0 rfl rfl (by omega) (by omega) (by omega))) ?_
  refine Bod.go dc_387_180 rfl ?_
  refine Bod.go dc_387_181 rfl ?_
  refine Bod.get dc_387_182 fr_387_531 (mk_thing ag (by first | exact hz1 | (simp only [rIS, rJS, rAS, rLS, rVS, rQS, rS_hold]; exact hz1))) rfl ?_
  refine Bod.eqI (nI fd0) (by first | assumption | rfl | exact congrArg nI (by omega) | (simp (disch := omega) only [rIn, rIe, rA, rIA, rLA, rJA, rVI, rQI, rVA, rQA, upd_at,  rAI, rLI, rJI, nI_add, pk_sub, kc_0, kc_1, kc_2, kc_3, kc_4, kc_5, reduceIte, Nat.reduceEqDiff, Nat.add_zero, rI_hold, rI_hold, rL_hold, hfd0]; done)) ?_
  refine Bod.ic 1 (by decide) dc_387_185 ?_
  refine Bod.icT dc_387_186 rfl (k2_ne_T (k_ne fd0 1 rfl rfl (by omega) (by omega) (by omega))) ?_
  refine Bod.go dc_387_195 rfl ?_
  refine Bod.get dc_387_196 fr_387_531 (mk_thing ag (by first | exact hz1 | (simp only [rIS, rJS, rAS, rLS, rVS, rQS, rS_hold]; exact hz1))) rfl ?_
  refine Bod.eqI (nI fd0) (by first | assumption | rfl | exact congrArg nI (by omega) | (simp (disch := omega) only [rIn, rIe, rA, rIA, rLA, rJA, rVI, rQI, rVA, rQA, upd_at,  rAI, rLI, rJI, nI_add, pk_sub, kc_0, kc_1, kc_2, kc_3, kc_4, kc_5, reduceIte, Nat.reduceEqDiff, Nat.add_zero, rI_hold, rI_hold, rL_hold, hfd0]; done)) ?_
  refine Bod.ic 2 (by decide) dc_387_199 ?_
  refine Bod.icT dc_387_200 rfl (k2_ne_T (k_ne fd0 2 rfl rfl (by omega) (by omega) (by omega))) ?_
  refine Bod.go dc_387_209 rfl ?_
  refine Bod.get dc_387_210 fr_387_531 (mk_thing ag (by first | exact hz1 | (simp only [rIS, rJS, rAS, rLS, rVS, rQS, rS_hold]; exact hz1))) rfl ?_
  refine Bod.eqI (nI fd0) (by first | assumption | rfl | exact congrArg nI (by omega) | (simp (disch := omega) only [rIn, rIe, rA, rIA, rLA, rJA, rVI, rQI, rVA, rQA, upd_at,  rAI, rLI, rJI, nI_add, pk_sub, kc_0, kc_1, kc_2, kc_3, kc_4, kc_5, reduceIte, Nat.reduceEqDiff, Nat.add_zero, rI_hold, rI_hold, rL_hold, hfd0]; done)) ?_
  refine Bod.ic 3 (by decide) dc_387_213 ?_
  refine Bod.icF dc_387_214 rfl (k2_ne_F (k_eq fd0 3 rfl rfl (by omega))) ?_
  refine Bod.ldcW dc_387_217 cs_387_840 ?_
  refine Bod.go dc_387_220 rfl ?_
  refine Bod.virt (r := []) dc_387_254 kr_387_821 ⟨Or.inl rfl, ow_384, cl_14⟩ (by rw [np_384]; rfl) (by rw [np_384]; rfl) (ob_of (mk_61 _)) (Nat.le_of_ble_eq_true rfl) (c1  ) ?_
  show Bod _ _ _ _ [] _ _ _
  refine Bod.go dc_387_257 rfl ?_
  refine Bod.ifT dc_387_258 rfl (k1_ne_T (k_ne 1 0 rfl rfl (by omega) (by omega) (by omega))) ?_
  refine Bod.go dc_387_340 rfl ?_
  refine Bod.bip 62 (by decide) dc_387_341 ?_
  refine Bod.virt (r := []) dc_387_343 kr_387_818 ⟨Or.inl rfl, ow_382, cl_14⟩ (by rw [np_382]; rfl) (by rw [np_382]; rfl) (ob_of (mk_61 _)) (Nat.le_of_ble_eq_true rfl) (c2  ) ?_
  show Bod _ _ _ _ [] _ _ _
  exact Bod.retV dc_387_346 rt_387
theorem rSt1_5 {d : Nat} {S : cS} {g : Nat} {zg : Nat} {fd0 : Nat} {S1 : cS} {S2 : cS} (ag : 108 ≤ g) (hz1 : (sS S)[g - 108]? = some (13, zg)) (hfd0 : sI S (100 * g + 0) = nI fd0) (mfd0 : fd0 < 2 ^ 20) (b1 : fd0 ≠ 1) (b2 : fd0 = 2) (c1 : Ans (d + 8) 384 [.ref 61, .retAddr (2 * 46)] S none S1) (c2 : Ans (d + 8) 382 [.ref 61, .int (nI 62)] S1 none S2) : Bod (d + 8) 387 0 [(0, .ref 61), (1, .ref g), (2, .int (nI 1))] [] S none (S2) := by
  refine Bod.go dc_387_0 rfl ?_
  refine Bod.ifT dc_387_1 rfl (k1_ne_T (k_ne 1 0 rfl rfl (by omega) (by omega) (by omega))) ?_
  refine Bod.go dc_387_75 rfl ?_
  refine Bod.ifT dc_387_76 rfl (k1_ne_T (k_ne 1 0 rfl rfl (by omega) (by omega) (by omega))) ?_
  refine Bod.go dc_387_180 rfl ?_
  refine Bod.go dc_387_181 rfl ?_
  refine Bod.get dc_387_182 fr_387_531 (mk_thing ag (by first | exact hz1 | (simp only [rIS, rJS, rAS, rLS, rVS, rQS, rS_hold]; exact hz1))) rfl ?_
  refine Bod.eqI (nI fd0) (by first | assumption | rfl | exact congrArg nI (by omega) | (simp (disch := omega) only [rIn, rIe, rA, rIA, rLA, rJA, rVI, rQI, rVA, rQA, upd_at,  rAI, rLI, rJI, nI_add, pk_sub, kc_0, kc_1, kc_2, kc_3, kc_4, kc_5, reduceIte, Nat.reduceEqDiff, Nat.add_zero, rI_hold, rI_hold, rL_hold, hfd0]; done)) ?_
  refine Bod.ic 1 (by decide) dc_387_185 ?_
  refine Bod.icT dc_387_186 rfl (k2_ne_T (k_ne fd0 1 rfl rfl (by omega) (by omega) (by omega))) ?_
  refine Bod.go dc_387_195 rfl ?_
  refine Bod.get dc_387_196 fr_387_531 (mk_thing ag (by first | exact hz1 | (simp only [rIS, rJS, rAS, rLS, rVS, rQS, rS_hold]; exact hz1))) rfl ?_
  refine Bod.eqI (nI fd0) (by first | assumption | rfl | exact congrArg nI (by omega) | (simp (disch := omega) only [rIn, rIe, rA, rIA, rLA, rJA, rVI, rQI, rVA, rQA, upd_at,  rAI, rLI, rJI, nI_add, pk_sub, kc_0, kc_1, kc_2, kc_3, kc_4, kc_5, reduceIte, Nat.reduceEqDiff, Nat.add_zero, rI_hold, rI_hold, rL_hold, hfd0]; done)) ?_
  refine Bod.ic 2 (by decide) dc_387_199 ?_
  refine Bod.icF dc_387_200 rfl (k2_ne_F (k_eq fd0 2 rfl rfl (by omega))) ?_
  refine Bod.ldcW dc_387_203 cs_387_838 ?_
  refine Bod.go dc_387_206 rfl ?_
  refine Bod.virt (r := []) dc_387_254 kr_387_821 ⟨Or.inl rfl, ow_384, cl_14⟩ (by rw [np_384]; rfl) (by rw [np_384]; rfl) (ob_of (mk_61 _)) (Nat.le_of_ble_eq_true rfl) (c1  ) ?_
  show Bod _ _ _ _ [] _ _ _
  refine Bod.go dc_387_257 rfl ?_
  refine Bod.ifT dc_387_258 rfl (k1_ne_T (k_ne 1 0 rfl rfl (by omega) (by omega) (by omega))) ?_
  refine Bod.go dc_387_340 rfl ?_
  refine Bod.bip 62 (by decide) dc_387_341 ?_
  refine Bod.virt (r := []) dc_387_343 kr_387_818 ⟨Or.inl rfl, ow_382, cl_14⟩ (by rw [np_382]; rfl) (by rw [np_382]; rfl) (ob_of (mk_61 _)) (Nat.le_of_ble_eq_true rfl) (c2  ) ?_
  show Bod _ _ _ _ [] _ _ _
  exact Bod.retV dc_387_346 rt_387
theorem rSt1_6 {d : Nat} {S : cS} {g : Nat} {zg : Nat} {fd0 : Nat} {S1 : cS} {S2 : cS} (ag : 108 ≤ g) (hz1 : (sS S)[g - 108]? = some (13, zg)) (hfd0 : sI S (100 * g + 0) = nI fd0) (mfd0 : fd0 < 2 ^ 20) (b1 : fd0 = 1) (c1 : Ans (d + 8) 384 [.ref 61, .retAddr (2 * 45)] S none S1) (c2 : Ans (d + 8) 382 [.ref 61, .int (nI 62)] S1 none S2) : Bod (d + 8) 387 0 [(0, .ref 61), (1, .ref g), (2, .int (nI 1))] [] S none (S2) := by
  refine Bod.go dc_387_0 rfl ?_
  refine Bod.ifT dc_387_1 rfl (k1_ne_T (k_ne 1 0 rfl rfl (by omega) (by omega) (by omega))) ?_
  refine Bod.go dc_387_75 rfl ?_
  refine Bod.ifT dc_387_76 rfl (k1_ne_T (k_ne 1 0 rfl rfl (by omega) (by omega) (by omega))) ?_
  refine Bod.go dc_387_180 rfl ?_
  refine Bod.go dc_387_181 rfl ?_
  refine Bod.get dc_387_182 fr_387_531 (mk_thing ag (by first | exact hz1 | (simp only [rIS, rJS, rAS, rLS, rVS, rQS, rS_hold]; exact hz1))) rfl ?_
  refine Bod.eqI (nI fd0) (by first | assumption | rfl | exact congrArg nI (by omega) | (simp (disch := omega) only [rIn, rIe, rA, rIA, rLA, rJA, rVI, rQI, rVA, rQA, upd_at,  rAI, rLI, rJI, nI_add, pk_sub, kc_0, kc_1, kc_2, kc_3, kc_4, kc_5, reduceIte, Nat.reduceEqDiff, Nat.add_zero, rI_hold, rI_hold, rL_hold, hfd0]; done)) ?_
  refine Bod.ic 1 (by decide) dc_387_185 ?_
  refine Bod.icF dc_387_186 rfl (k2_ne_F (k_eq fd0 1 rfl rfl (by omega))) ?_
  refine Bod.ldcW dc_387_189 cs_387_836 ?_
  refine Bod.go dc_387_192 rfl ?_
  refine Bod.virt (r := []) dc_387_254 kr_387_821 ⟨Or.inl rfl, ow_384, cl_14⟩ (by rw [np_384]; rfl) (by rw [np_384]; rfl) (ob_of (mk_61 _)) (Nat.le_of_ble_eq_true rfl) (c1  ) ?_
  show Bod _ _ _ _ [] _ _ _
  refine Bod.go dc_387_257 rfl ?_
  refine Bod.ifT dc_387_258 rfl (k1_ne_T (k_ne 1 0 rfl rfl (by omega) (by omega) (by omega))) ?_
  refine Bod.go dc_387_340 rfl ?_
  refine Bod.bip 62 (by decide) dc_387_341 ?_
  refine Bod.virt (r := []) dc_387_343 kr_387_818 ⟨Or.inl rfl, ow_382, cl_14⟩ (by rw [np_382]; rfl) (by rw [np_382]; rfl) (ob_of (mk_61 _)) (Nat.le_of_ble_eq_true rfl) (c2  ) ?_
  show Bod _ _ _ _ [] _ _ _
  exact Bod.retV dc_387_346 rt_387
theorem rStA_1 {d : Nat} {S : cS} {lv : sm_L} {g : Nat} {zg : Nat} {ni : Nat} {fd1 : Nat} {S1 : cS} (q0 : sm_get lv 0 = some (.ref 61)) (q1 : sm_get lv 1 = some (.ref g)) (q2 : sm_get lv 2 = some (.int (nI 0))) (q3 : sm_get lv 3 = some (.int (nI ni))) (mni : ni < 2 ^ 20) (ag : 108 ≤ g) (hz1 : (sS S)[g - 108]? = some (13, zg)) (hfd1 : sI S (100 * g + 1) = nI fd1) (mfd1 : fd1 < 2 ^ 20) (b1 : fd1 ≤ ni) (c1 : Ans (d + 8) 382 [.ref 61, .int (nI 93)] S none S1) : Bod (d + 8) 387 20 lv [] S none (S1) := by
  refine Bod.ildnG dc_387_20 (by repeat (first | exact q3 | exact sm_get_p1 | exact sm_get_p2e | refine sm_get_p1m (by decide) (by decide) ?_ | refine sm_get_p1n (by decide) rfl ?_ | refine sm_get_p2n (by decide) (by decide) rfl ?_ | refine sm_get_p2m (by decide) (by decide) (by decide) ?_)) ?_
  refine Bod.aldnG dc_387_21 (by repeat (first | exact q1 | exact sm_get_p1 | exact sm_get_p2e | refine sm_get_p1m (by decide) (by decide) ?_ | refine sm_get_p1n (by decide) rfl ?_ | refine sm_get_p2n (by decide) (by decide) rfl ?_ | refine sm_get_p2m (by decide) (by decide) (by decide) ?_)) ?_
  refine Bod.get dc_387_22 fr_387_459 (mk_thing ag (by first | exact hz1 | (simp only [rIS, rJS, rAS, rLS, rVS, rQS, rS_hold]; exact hz1))) rfl ?_
  refine Bod.eqI (nI fd1) (by first | assumption | rfl | exact congrArg nI (by omega) | (simp (disch := omega) only [rIn, rIe, rA, rIA, rLA, rJA, rVI, rQI, rVA, rQA, upd_at,  rAI, rLI, rJI, nI_add, pk_sub, kc_0, kc_1, kc_2, kc_3, kc_4, kc_5, reduceIte, Nat.reduceEqDiff, Nat.add_zero, rI_hold, rI_hold, rL_hold, hfd1]; done)) ?_
  refine Bod.icT dc_387_25 rfl (k2_ge_T ni fd1 rfl rfl (by omega) (by omega)) ?_
  refine Bod.aldnG dc_387_68 (by repeat (first | exact q0 | exact sm_get_p1 | exact sm_get_p2e | refine sm_get_p1m (by decide) (by decide) ?_ | refine sm_get_p1n (by decide) rfl ?_ | refine sm_get_p2n (by decide) (by decide) rfl ?_ | refine sm_get_p2m (by decide) (by decide) (by decide) ?_)) ?_
  refine Bod.bip 93 (by decide) dc_387_69 ?_
  refine Bod.virt (r := []) dc_387_71 kr_387_818 ⟨Or.inl rfl, ow_382, cl_14⟩ (by rw [np_382]; rfl) (by rw [np_382]; rfl) (ob_of (mk_61 _)) (Nat.le_of_ble_eq_true rfl) (c1  ) ?_
  show Bod _ _ _ _ [] _ _ _
  exact Bod.retV dc_387_74 rt_387
theorem rStA_2 {d : Nat} {S Sf : cS} {v : Option Value} {lv : sm_L} {g : Nat} {zg : Nat} {ni : Nat} {fd1 : Nat} {r : Nat} {N : Nat} {e : Nat} {r1 : Nat} {N1 : Nat} {r2 : Nat} {N2 : Nat} {S1 : cS} (q0 : sm_get lv 0 = some (.ref 61)) (q1 : sm_get lv 1 = some (.ref g)) (q2 : sm_get lv 2 = some (.int (nI 0))) (q3 : sm_get lv 3 = some (.int (nI ni))) (mni : ni < 2 ^ 20) (ag : 108 ≤ g) (hz1 : (sS S)[g - 108]? = some (13, zg)) (hfd1 : sI S (100 * g + 1) = nI fd1) (mfd1 : fd1 < 2 ^ 20) (b1 : ni < fd1) (b2 : ni ≤ 0) (hv1 : sV S (100 * g + 2) = .ref r) (hg1 : isK S r 0 N) (mN : N < 2 ^ 20) (b3 : ni < N) (he : sA S r ni = nI e) (me : e < 2 ^ 20) (hv2 : sV S (100 * g + 4) = .ref r1) (hg2 : isK S r1 1 N1) (mN1 : N1 < 2 ^ 20) (b4 : ni < N1) (hv3 : sV S (100 * g + 5) = .ref r2) (hg3 : isK S r2 1 N2) (mN2 : N2 < 2 ^ 20) (b5 : ni < N2) (c1 : Ans (d + 8) 383 [.ref 61, .int (nI e), .long (sL S r1 ni), .long (sL S r2 ni), .int (nI 1)] S none S1) (hB : ∀ lv1 : sm_L, sm_get lv1 0 = some (.ref 61) → sm_get lv1 1 = some (.ref g) → sm_get lv1 2 = some (.int (nI 0)) → sm_get lv1 3 = some (.int (nI (ni + 1))) → Bod (d + 8) 387 20 lv1 [] (S1) v Sf) : Bod (d + 8) 387 20 lv [] S v Sf := by
  refine Bod.ildnG dc_387_20 (by repeat (first | exact q3 | exact sm_get_p1 | exact sm_get_p2e | refine sm_get_p1m (by decide) (by decide) ?_ | refine sm_get_p1n (by decide) rfl ?_ | refine sm_get_p2n (by decide) (by decide) rfl ?_ | refine sm_get_p2m (by decide) (by decide) (by decide) ?_)) ?_
  refine Bod.aldnG dc_387_21 (by repeat (first | exact q1 | exact sm_get_p1 | exact sm_get_p2e | refine sm_get_p1m (by decide) (by decide) ?_ | refine sm_get_p1n (by decide) rfl ?_ | refine sm_get_p2n (by decide) (by decide) rfl ?_ | refine sm_get_p2m (by decide) (by decide) (by decide) ?_)) ?_
  refine Bod.get dc_387_22 fr_387_459 (mk_thing ag (by first | exact hz1 | (simp only [rIS, rJS, rAS, rLS, rVS, rQS, rS_hold]; exact hz1))) rfl ?_
  refine Bod.eqI (nI fd1) (by first | assumption | rfl | exact congrArg nI (by omega) | (simp (disch := omega) only [rIn, rIe, rA, rIA, rLA, rJA, rVI, rQI, rVA, rQA, upd_at,  rAI, rLI, rJI, nI_add, pk_sub, kc_0, kc_1, kc_2, kc_3, kc_4, kc_5, reduceIte, Nat.reduceEqDiff, Nat.add_zero, rI_hold, rI_hold, rL_hold, hfd1]; done)) ?_
  refine Bod.icF dc_387_25 rfl (k2_ge_F ni fd1 rfl rfl (by omega) (by omega)) ?_
  refine Bod.ildnG dc_387_28 (by repeat (first | exact q3 | exact sm_get_p1 | exact sm_get_p2e | refine sm_get_p1m (by decide) (by decide) ?_ | refine sm_get_p1n (by decide) rfl ?_ | refine sm_get_p2n (by decide) (by decide) rfl ?_ | refine sm_get_p2m (by decide) (by decide) (by decide) ?_)) ?_
  refine Bod.ifT dc_387_29 rfl (k1_le_T (k_eq ni 0 (by first | assumption | rfl | exact congrArg nI (by omega) | (simp (disch := omega) only [rIn, rIe, rA, rIA, rLA, rJA, rVI, rQI, rVA, rQA, upd_at,  rAI, rLI, rJI, nI_add, pk_sub, kc_0, kc_1, kc_2, kc_3, kc_4, kc_5, reduceIte, Nat.reduceEqDiff, Nat.add_zero, rI_hold, rI_hold, rL_hold, hfd1]; done)) rfl (by omega))) ?_
  refine Bod.aldnG dc_387_39 (by repeat (first | exact q0 | exact sm_get_p1 | exact sm_get_p2e | refine sm_get_p1m (by decide) (by decide) ?_ | refine sm_get_p1n (by decide) rfl ?_ | refine sm_get_p2n (by decide) (by decide) rfl ?_ | refine sm_get_p2m (by decide) (by decide) (by decide) ?_)) ?_
  refine Bod.aldnG dc_387_40 (by repeat (first | exact q1 | exact sm_get_p1 | exact sm_get_p2e | refine sm_get_p1m (by decide) (by decide) ?_ | refine sm_get_p1n (by decide) rfl ?_ | refine sm_get_p2n (by decide) (by decide) rfl ?_ | refine sm_get_p2m (by decide) (by decide) (by decide) ?_)) ?_
  refine Bod.get dc_387_41 fr_387_462 (mk_thing ag (by first | exact hz1 | (simp only [rIS, rJS, rAS, rLS, rVS, rQS, rS_hold]; exact hz1))) rfl ?_
  refine Bod.eqV (.ref r) (by first | exact hv1 | (simp only [rIV, rJV, rAV, rLV, rQV, rV, reduceIte, Nat.reduceEqDiff]; exact hv1) | (simp only [rIV, rJV, rAV, rLV, rQV, rV]; repeat rw [if_neg (by omega)]; exact hv1)) ?_
  refine Bod.ildnG dc_387_44 (by repeat (first | exact q3 | exact sm_get_p1 | exact sm_get_p2e | refine sm_get_p1m (by decide) (by decide) ?_ | refine sm_get_p1n (by decide) rfl ?_ | refine sm_get_p2n (by decide) (by decide) rfl ?_ | refine sm_get_p2m (by decide) (by decide) (by decide) ?_)) ?_
  refine Bod.ialdN (N := N) ni rfl (by omega) (by omega) dc_387_45 (mk_isI (by first | exact hg1 | exact isK_S (by simp only [rIS, rJS, rAS, rLS, rVS, rQS, rS_hold]) hg1)) ?_
  refine Bod.eqI (nI e) (by first | assumption | rfl | exact congrArg nI (by omega) | (simp (disch := omega) only [rIn, rIe, rA, rIA, rLA, rJA, rVI, rQI, rVA, rQA, upd_at,  rAI, rLI, rJI, nI_add, pk_sub, kc_0, kc_1, kc_2, kc_3, kc_4, kc_5, reduceIte, Nat.reduceEqDiff, Nat.add_zero, rI_hold, rI_hold, rL_hold, hfd1, he]; done)) ?_
  refine Bod.aldnG dc_387_46 (by repeat (first | exact q1 | exact sm_get_p1 | exact sm_get_p2e | refine sm_get_p1m (by decide) (by decide) ?_ | refine sm_get_p1n (by decide) rfl ?_ | refine sm_get_p2n (by decide) (by decide) rfl ?_ | refine sm_get_p2m (by decide) (by decide) (by decide) ?_)) ?_
  refine Bod.get dc_387_47 fr_387_465 (mk_thing ag (by first | exact hz1 | (simp only [rIS, rJS, rAS, rLS, rVS, rQS, rS_hold]; exact hz1))) rfl ?_
  refine Bod.eqV (.ref r1) (by first | exact hv2 | (simp only [rIV, rJV, rAV, rLV, rQV, rV, reduceIte, Nat.reduceEqDiff]; exact hv2) | (simp only [rIV, rJV, rAV, rLV, rQV, rV]; repeat rw [if_neg (by omega)]; exact hv2)) ?_
  refine Bod.ildnG dc_387_50 (by repeat (first | exact q3 | exact sm_get_p1 | exact sm_get_p2e | refine sm_get_p1m (by decide) (by decide) ?_ | refine sm_get_p1n (by decide) rfl ?_ | refine sm_get_p2n (by decide) (by decide) rfl ?_ | refine sm_get_p2m (by decide) (by decide) (by decide) ?_)) ?_
  refine Bod.laldN (N := N1) ni rfl (by omega) (by omega) dc_387_51 (mk_isL (by first | exact hg2 | exact isK_S (by simp only [rIS, rJS, rAS, rLS, rVS, rQS, rS_hold]) hg2)) ?_
  refine Bod.aldnG dc_387_52 (by repeat (first | exact q1 | exact sm_get_p1 | exact sm_get_p2e | refine sm_get_p1m (by decide) (by decide) ?_ | refine sm_get_p1n (by decide) rfl ?_ | refine sm_get_p2n (by decide) (by decide) rfl ?_ | refine sm_get_p2m (by decide) (by decide) (by decide) ?_)) ?_
  refine Bod.get dc_387_53 fr_387_627 (mk_thing ag (by first | exact hz1 | (simp only [rIS, rJS, rAS, rLS, rVS, rQS, rS_hold]; exact hz1))) rfl ?_
  refine Bod.eqV (.ref r2) (by first | exact hv3 | (simp only [rIV, rJV, rAV, rLV, rQV, rV, reduceIte, Nat.reduceEqDiff]; exact hv3) | (simp only [rIV, rJV, rAV, rLV, rQV, rV]; repeat rw [if_neg (by omega)]; exact hv3)) ?_
  refine Bod.ildnG dc_387_56 (by repeat (first | exact q3 | exact sm_get_p1 | exact sm_get_p2e | refine sm_get_p1m (by decide) (by decide) ?_ | refine sm_get_p1n (by decide) rfl ?_ | refine sm_get_p2n (by decide) (by decide) rfl ?_ | refine sm_get_p2m (by decide) (by decide) (by decide) ?_)) ?_
  refine Bod.laldN (N := N2) ni rfl (by omega) (by omega) dc_387_57 (mk_isL (by first | exact hg3 | exact isK_S (by simp only [rIS, rJS, rAS, rLS, rVS, rQS, rS_hold]) hg3)) ?_
  refine Bod.ic 1 (by decide) dc_387_58 ?_
  refine Bod.virt (r := []) dc_387_59 kr_387_831 ⟨Or.inl rfl, ow_383, cl_14⟩ (by rw [np_383]; rfl) (by rw [np_383]; rfl) (ob_of (mk_61 _)) (Nat.le_of_ble_eq_true rfl) (c1  ) ?_
  show Bod _ _ _ _ [] _ _ _
  refine Bod.incN (ni + 1) (by rw [kc_1, nI_add]) dc_387_62 (by rw [ml_387]; exact Nat.le_of_ble_eq_true rfl) (by repeat (first | exact q3 | exact sm_get_p1 | exact sm_get_p2e | refine sm_get_p1m (by decide) (by decide) ?_ | refine sm_get_p1n (by decide) rfl ?_ | refine sm_get_p2n (by decide) (by decide) rfl ?_ | refine sm_get_p2m (by decide) (by decide) (by decide) ?_)) ?_
  refine Bod.go dc_387_65 rfl ?_
  exact hB _ (by repeat (first | exact q0 | exact sm_get_p1 | exact sm_get_p2e | refine sm_get_p1m (by decide) (by decide) ?_ | refine sm_get_p1n (by decide) rfl ?_ | refine sm_get_p2n (by decide) (by decide) rfl ?_ | refine sm_get_p2m (by decide) (by decide) (by decide) ?_)) (by repeat (first | exact q1 | exact sm_get_p1 | exact sm_get_p2e | refine sm_get_p1m (by decide) (by decide) ?_ | refine sm_get_p1n (by decide) rfl ?_ | refine sm_get_p2n (by decide) (by decide) rfl ?_ | refine sm_get_p2m (by decide) (by decide) (by decide) ?_)) (by repeat (first | exact q2 | exact sm_get_p1 | exact sm_get_p2e | refine sm_get_p1m (by decide) (by decide) ?_ | refine sm_get_p1n (by decide) rfl ?_ | refine sm_get_p2n (by decide) (by decide) rfl ?_ | refine sm_get_p2m (by decide) (by decide) (by decide) ?_)) (by repeat (first | exact q0 | exact sm_get_p1 | exact sm_get_p2e | refine sm_get_p1m (by decide) (by decide) ?_ | refine sm_get_p1n (by decide) rfl ?_ | refine sm_get_p2n (by decide) (by decide) rfl ?_ | refine sm_get_p2m (by decide) (by decide) (by decide) ?_))
theorem rStA_3 {d : Nat} {S Sf : cS} {v : Option Value} {lv : sm_L} {g : Nat} {zg : Nat} {ni : Nat} {fd1 : Nat} {S1 : cS} {r : Nat} {N : Nat} {e : Nat} {r1 : Nat} {N1 : Nat} {r2 : Nat} {N2 : Nat} {S2 : cS} (q0 : sm_get lv 0 = some (.ref 61)) (q1 : sm_get lv 1 = some (.ref g)) (q2 : sm_get lv 2 = some (.int (nI 0))) (q3 : sm_get lv 3 = some (.int (nI ni))) (mni : ni < 2 ^ 20) (ag : 108 ≤ g) (hz1 : (sS S)[g - 108]? = some (13, zg)) (hfd1 : sI S (100 * g + 1) = nI fd1) (mfd1 : fd1 < 2 ^ 20) (b1 : ni < fd1) (b2 : 0 < ni) (c1 : Ans (d + 8) 384 [.ref 61, .retAddr (2 * 4)] S none S1) (hz2 : (sS S1)[g - 108]? = some (13, zg)) (hv1 : sV S1 (100 * g + 2) = .ref r) (hg1 : isK S1 r 0 N) (mN : N < 2 ^ 20) (b3 : ni < N) (he : sA S1 r ni = nI e) (me : e < 2 ^ 20) (hv2 : sV S1 (100 * g + 4) = .ref r1) (hg2 : isK S1 r1 1 N1) (mN1 : N1 < 2 ^ 20) (b4 : ni < N1) (hv3 : sV S1 (100 * g + 5) = .ref r2) (hg3 : isK S1 r2 1 N2) (mN2 : N2 < 2 ^ 20) (b5 : ni < N2) (c2 : Ans (d + 8) 383 [.ref 61, .int (nI e), .long (sL S1 r1 ni), .long (sL S1 r2 ni), .int (nI 1)] S1 none S2) (hB : ∀ lv1 : sm_L, sm_get lv1 0 = some (.ref 61) → sm_get lv1 1 = some (.ref g) → sm_get lv1 2 = some (.int (nI 0)) → sm_get lv1 3 = some (.int (nI (ni + 1))) → Bod (d + 8) 387 20 lv1 [] (S2) v Sf) : Bod (d + 8) 387 20 lv [] S v Sf := by
  refine Bod.ildnG dc_387_20 (by repeat (first | exact q3 | exact sm_get_p1 | exact sm_get_p2e | refine sm_get_p1m (by decide) (by decide) ?_ | refine sm_get_p1n (by decide) rfl ?_ | refine sm_get_p2n (by decide) (by decide) rfl ?_ | refine sm_get_p2m (by decide) (by decide) (by decide) ?_)) ?_
  refine Bod.aldnG dc_387_21 (by repeat (first | exact q1 | exact sm_get_p1 | exact sm_get_p2e | refine sm_get_p1m (by decide) (by decide) ?_ | refine sm_get_p1n (by decide) rfl ?_ | refine sm_get_p2n (by decide) (by decide) rfl ?_ | refine sm_get_p2m (by decide) (by decide) (by decide) ?_)) ?_
  refine Bod.get dc_387_22 fr_387_459 (mk_thing ag (by first | exact hz1 | (simp only [rIS, rJS, rAS, rLS, rVS, rQS, rS_hold]; exact hz1))) rfl ?_
  refine Bod.eqI (nI fd1) (by first | assumption | rfl | exact congrArg nI (by omega) | (simp (disch := omega) only [rIn, rIe, rA, rIA, rLA, rJA, rVI, rQI, rVA, rQA, upd_at,  rAI, rLI, rJI, nI_add, pk_sub, kc_0, kc_1, kc_2, kc_3, kc_4, kc_5, reduceIte, Nat.reduceEqDiff, Nat.add_zero, rI_hold, rI_hold, rL_hold, hfd1]; done)) ?_
  refine Bod.icF dc_387_25 rfl (k2_ge_F ni fd1 rfl rfl (by omega) (by omega)) ?_
  refine Bod.ildnG dc_387_28 (by repeat (first | exact q3 | exact sm_get_p1 | exact sm_get_p2e | refine sm_get_p1m (by decide) (by decide) ?_ | refine sm_get_p1n (by decide) rfl ?_ | refine sm_get_p2n (by decide) (by decide) rfl ?_ | refine sm_get_p2m (by decide) (by decide) (by decide) ?_)) ?_
  refine Bod.ifF dc_387_29 rfl (k1_le_F ni rfl (by omega) (by omega)) ?_
  refine Bod.aldnG dc_387_32 (by repeat (first | exact q0 | exact sm_get_p1 | exact sm_get_p2e | refine sm_get_p1m (by decide) (by decide) ?_ | refine sm_get_p1n (by decide) rfl ?_ | refine sm_get_p2n (by decide) (by decide) rfl ?_ | refine sm_get_p2m (by decide) (by decide) (by decide) ?_)) ?_
  refine Bod.ldcW dc_387_33 cs_387_829 ?_
  refine Bod.virt (r := []) dc_387_36 kr_387_821 ⟨Or.inl rfl, ow_384, cl_14⟩ (by rw [np_384]; rfl) (by rw [np_384]; rfl) (ob_of (mk_61 _)) (Nat.le_of_ble_eq_true rfl) (c1  ) ?_
  show Bod _ _ _ _ [] _ _ _
  refine Bod.aldnG dc_387_39 (by repeat (first | exact q0 | exact sm_get_p1 | exact sm_get_p2e | refine sm_get_p1m (by decide) (by decide) ?_ | refine sm_get_p1n (by decide) rfl ?_ | refine sm_get_p2n (by decide) (by decide) rfl ?_ | refine sm_get_p2m (by decide) (by decide) (by decide) ?_)) ?_
  refine Bod.aldnG dc_387_40 (by repeat (first | exact q1 | exact sm_get_p1 | exact sm_get_p2e | refine sm_get_p1m (by decide) (by decide) ?_ | refine sm_get_p1n (by decide) rfl ?_ | refine sm_get_p2n (by decide) (by decide) rfl ?_ | refine sm_get_p2m (by decide) (by decide) (by decide) ?_)) ?_
  refine Bod.get dc_387_41 fr_387_462 (mk_thing ag (by first | exact hz2 | (simp only [rIS, rJS, rAS, rLS, rVS, rQS, rS_hold]; exact hz2))) rfl ?_
  refine Bod.eqV (.ref r) (by first | exact hv1 | (simp only [rIV, rJV, rAV, rLV, rQV, rV, reduceIte, Nat.reduceEqDiff]; exact hv1) | (simp only [rIV, rJV, rAV, rLV, rQV, rV]; repeat rw [if_neg (by omega)]; exact hv1)) ?_
  refine Bod.ildnG dc_387_44 (by repeat (first | exact q3 | exact sm_get_p1 | exact sm_get_p2e | refine sm_get_p1m (by decide) (by decide) ?_ | refine sm_get_p1n (by decide) rfl ?_ | refine sm_get_p2n (by decide) (by decide) rfl ?_ | refine sm_get_p2m (by decide) (by decide) (by decide) ?_)) ?_
  refine Bod.ialdN (N := N) ni rfl (by omega) (by omega) dc_387_45 (mk_isI (by first | exact hg1 | exact isK_S (by simp only [rIS, rJS, rAS, rLS, rVS, rQS, rS_hold]) hg1)) ?_
  refine Bod.eqI (nI e) (by first | assumption | (simp (disch := omega) only [rIn, rIe, rA, rIA, rLA, rJA, rVI, rQI, rVA, rQA, upd_at,  rAI, rLI, rJI, nI_add, pk_sub, kc_0, kc_1, kc_2, kc_3, kc_4, kc_5, reduceIte, Nat.reduceEqDiff, Nat.add_zero, rI_hold, rI_hold, rL_hold, hfd1, he]; done) | (simp (disch := omega) only [rIn, rIe, rA, rIA, rLA, rJA, rVI, rQI, rVA, rQA, upd_at,  rAI, rLI, rJI, nI_add, pk_sub, kc_0, kc_1, kc_2, kc_3, kc_4, kc_5, reduceIte, Nat.reduceEqDiff, Nat.add_zero, rI_hold, rI_hold, rL_hold, hfd1, he]; exact congrArg nI (by omega))) ?_
  refine Bod.aldnG dc_387_46 (by repeat (first | exact q1 | exact sm_get_p1 | exact sm_get_p2e | refine sm_get_p1m (by decide) (by decide) ?_ | refine sm_get_p1n (by decide) rfl ?_ | refine sm_get_p2n (by decide) (by decide) rfl ?_ | refine sm_get_p2m (by decide) (by decide) (by decide) ?_)) ?_
  refine Bod.get dc_387_47 fr_387_465 (mk_thing ag (by first | exact hz2 | (simp only [rIS, rJS, rAS, rLS, rVS, rQS, rS_hold]; exact hz2))) rfl ?_
  refine Bod.eqV (.ref r1) (by first | exact hv2 | (simp only [rIV, rJV, rAV, rLV, rQV, rV, reduceIte, Nat.reduceEqDiff]; exact hv2) | (simp only [rIV, rJV, rAV, rLV, rQV, rV]; repeat rw [if_neg (by omega)]; exact hv2)) ?_
  refine Bod.ildnG dc_387_50 (by repeat (first | exact q3 | exact sm_get_p1 | exact sm_get_p2e | refine sm_get_p1m (by decide) (by decide) ?_ | refine sm_get_p1n (by decide) rfl ?_ | refine sm_get_p2n (by decide) (by decide) rfl ?_ | refine sm_get_p2m (by decide) (by decide) (by decide) ?_)) ?_
  refine Bod.laldN (N := N1) ni rfl (by omega) (by omega) dc_387_51 (mk_isL (by first | exact hg2 | exact isK_S (by simp only [rIS, rJS, rAS, rLS, rVS, rQS, rS_hold]) hg2)) ?_
  refine Bod.aldnG dc_387_52 (by repeat (first | exact q1 | exact sm_get_p1 | exact sm_get_p2e | refine sm_get_p1m (by decide) (by decide) ?_ | refine sm_get_p1n (by decide) rfl ?_ | refine sm_get_p2n (by decide) (by decide) rfl ?_ | refine sm_get_p2m (by decide) (by decide) (by decide) ?_)) ?_
  refine Bod.get dc_387_53 fr_387_627 (mk_thing ag (by first | exact hz2 | (simp only [rIS, rJS, rAS, rLS, rVS, rQS, rS_hold]; exact hz2))) rfl ?_
  refine Bod.eqV (.ref r2) (by first | exact hv3 | (simp only [rIV, rJV, rAV, rLV, rQV, rV, reduceIte, Nat.reduceEqDiff]; exact hv3) | (simp only [rIV, rJV, rAV, rLV, rQV, rV]; repeat rw [if_neg (by omega)]; exact hv3)) ?_
  refine Bod.ildnG dc_387_56 (by repeat (first | exact q3 | exact sm_get_p1 | exact sm_get_p2e | refine sm_get_p1m (by decide) (by decide) ?_ | refine sm_get_p1n (by decide) rfl ?_ | refine sm_get_p2n (by decide) (by decide) rfl ?_ | refine sm_get_p2m (by decide) (by decide) (by decide) ?_)) ?_
  refine Bod.laldN (N := N2) ni rfl (by omega) (by omega) dc_387_57 (mk_isL (by first | exact hg3 | exact isK_S (by simp only [rIS, rJS, rAS, rLS, rVS, rQS, rS_hold]) hg3)) ?_
  refine Bod.ic 1 (by decide) dc_387_58 ?_
  refine Bod.virt (r := []) dc_387_59 kr_387_831 ⟨Or.inl rfl, ow_383, cl_14⟩ (by rw [np_383]; rfl) (by rw [np_383]; rfl) (ob_of (mk_61 _)) (Nat.le_of_ble_eq_true rfl) (c2  ) ?_
  show Bod _ _ _ _ [] _ _ _
  refine Bod.incN (ni + 1) (by rw [kc_1, nI_add]) dc_387_62 (by rw [ml_387]; exact Nat.le_of_ble_eq_true rfl) (by repeat (first | exact q3 | exact sm_get_p1 | exact sm_get_p2e | refine sm_get_p1m (by decide) (by decide) ?_ | refine sm_get_p1n (by decide) rfl ?_ | refine sm_get_p2n (by decide) (by decide) rfl ?_ | refine sm_get_p2m (by decide) (by decide) (by decide) ?_)) ?_
  refine Bod.go dc_387_65 rfl ?_
  exact hB _ (by repeat (first | exact q0 | exact sm_get_p1 | exact sm_get_p2e | refine sm_get_p1m (by decide) (by decide) ?_ | refine sm_get_p1n (by decide) rfl ?_ | refine sm_get_p2n (by decide) (by decide) rfl ?_ | refine sm_get_p2m (by decide) (by decide) (by decide) ?_)) (by repeat (first | exact q1 | exact sm_get_p1 | exact sm_get_p2e | refine sm_get_p1m (by decide) (by decide) ?_ | refine sm_get_p1n (by decide) rfl ?_ | refine sm_get_p2n (by decide) (by decide) rfl ?_ | refine sm_get_p2m (by decide) (by decide) (by decide) ?_)) (by repeat (first | exact q2 | exact sm_get_p1 | exact sm_get_p2e | refine sm_get_p1m (by decide) (by decide) ?_ | refine sm_get_p1n (by decide) rfl ?_ | refine sm_get_p2n (by decide) (by decide) rfl ?_ | refine sm_get_p2m (by decide) (by decide) (by decide) ?_)) (by repeat (first | exact q0 | exact sm_get_p1 | exact sm_get_p2e | refine sm_get_p1m (by decide) (by decide) ?_ | refine sm_get_p1n (by decide) rfl ?_ | refine sm_get_p2n (by decide) (by decide) rfl ?_ | refine sm_get_p2m (by decide) (by decide) (by decide) ?_))
theorem rStB_1 {d : Nat} {S : cS} {lv : sm_L} {g : Nat} {zg : Nat} {ni : Nat} {fd1 : Nat} {S1 : cS} (q0 : sm_get lv 0 = some (.ref 61)) (q1 : sm_get lv 1 = some (.ref g)) (q2 : sm_get lv 2 = some (.int (nI 0))) (q3 : sm_get lv 3 = some (.int (nI ni))) (mni : ni < 2 ^ 20) (ag : 108 ≤ g) (hz1 : (sS S)[g - 108]? = some (13, zg)) (hfd1 : sI S (100 * g + 1) = nI fd1) (mfd1 : fd1 < 2 ^ 20) (b1 : fd1 ≤ ni) (c1 : Ans (d + 8) 382 [.ref 61, .int (nI 125)] S none S1) : Bod (d + 8) 387 95 lv [] S none (S1) := by
  refine Bod.ildnG dc_387_95 (by repeat (first | exact q3 | exact sm_get_p1 | exact sm_get_p2e | refine sm_get_p1m (by decide) (by decide) ?_ | refine sm_get_p1n (by decide) rfl ?_ | refine sm_get_p2n (by decide) (by decide) rfl ?_ | refine sm_get_p2m (by decide) (by decide) (by decide) ?_)) ?_
  refine Bod.aldnG dc_387_96 (by repeat (first | exact q1 | exact sm_get_p1 | exact sm_get_p2e | refine sm_get_p1m (by decide) (by decide) ?_ | refine sm_get_p1n (by decide) rfl ?_ | refine sm_get_p2n (by decide) (by decide) rfl ?_ | refine sm_get_p2m (by decide) (by decide) (by decide) ?_)) ?_
  refine Bod.get dc_387_97 fr_387_459 (mk_thing ag (by first | exact hz1 | (simp only [rIS, rJS, rAS, rLS, rVS, rQS, rS_hold]; exact hz1))) rfl ?_
  refine Bod.eqI (nI fd1) (by first | assumption | rfl | exact congrArg nI (by omega) | (simp (disch := omega) only [rIn, rIe, rA, rIA, rLA, rJA, rVI, rQI, rVA, rQA, upd_at,  rAI, rLI, rJI, nI_add, pk_sub, kc_0, kc_1, kc_2, kc_3, kc_4, kc_5, reduceIte, Nat.reduceEqDiff, Nat.add_zero, rI_hold, rI_hold, rL_hold, hfd1]; done)) ?_
  refine Bod.icT dc_387_100 rfl (k2_ge_T ni fd1 rfl rfl (by omega) (by omega)) ?_
  refine Bod.aldnG dc_387_173 (by repeat (first | exact q0 | exact sm_get_p1 | exact sm_get_p2e | refine sm_get_p1m (by decide) (by decide) ?_ | refine sm_get_p1n (by decide) rfl ?_ | refine sm_get_p2n (by decide) (by decide) rfl ?_ | refine sm_get_p2m (by decide) (by decide) (by decide) ?_)) ?_
  refine Bod.bip 125 (by decide) dc_387_174 ?_
  refine Bod.virt (r := []) dc_387_176 kr_387_818 ⟨Or.inl rfl, ow_382, cl_14⟩ (by rw [np_382]; rfl) (by rw [np_382]; rfl) (ob_of (mk_61 _)) (Nat.le_of_ble_eq_true rfl) (c1  ) ?_
  show Bod _ _ _ _ [] _ _ _
  exact Bod.retV dc_387_179 rt_387
theorem rStB_2 {d : Nat} {S Sf : cS} {v : Option Value} {lv : sm_L} {g : Nat} {zg : Nat} {ni : Nat} {fd1 : Nat} {r : Nat} {N : Nat} {e : Nat} {r1 : Nat} {N1 : Nat} {r2 : Nat} {N2 : Nat} {S1 : cS} {S2 : cS} {r3 : Nat} {N3 : Nat} {e1 : Nat} {r4 : Nat} {N4 : Nat} {r5 : Nat} {N5 : Nat} {S3 : cS} (q0 : sm_get lv 0 = some (.ref 61)) (q1 : sm_get lv 1 = some (.ref g)) (q2 : sm_get lv 2 = some (.int (nI 0))) (q3 : sm_get lv 3 = some (.int (nI ni))) (mni : ni < 2 ^ 20) (ag : 108 ≤ g) (hz1 : (sS S)[g - 108]? = some (13, zg)) (hfd1 : sI S (100 * g + 1) = nI fd1) (mfd1 : fd1 < 2 ^ 20) (b1 : ni < fd1) (b2 : ni ≤ 0) (hv1 : sV S (100 * g + 3) = .ref r) (hg1 : isK S r 0 N) (mN : N < 2 ^ 20) (b3 : ni < N) (he : sA S r ni = nI e) (me : e < 2 ^ 20) (hv2 : sV S (100 * g + 6) = .ref r1) (hg2 : isK S r1 1 N1) (mN1 : N1 < 2 ^ 20) (b4 : ni < N1) (hv3 : sV S (100 * g + 7) = .ref r2) (hg3 : isK S r2 1 N2) (mN2 : N2 < 2 ^ 20) (b5 : ni < N2) (c1 : Ans (d + 8) 383 [.ref 61, .int (nI e), .long (sL S r1 ni), .long (sL S r2 ni), .int (nI 1)] S none S1) (c2 : Ans (d + 8) 384 [.ref 61, .retAddr (2 * 12)] S1 none S2) (hz2 : (sS S2)[g - 108]? = some (13, zg)) (hv4 : sV S2 (100 * g + 2) = .ref r3) (hg4 : isK S2 r3 0 N3) (mN3 : N3 < 2 ^ 20) (b6 : ni < N3) (he1 : sA S2 r3 ni = nI e1) (me1 : e1 < 2 ^ 20) (hv5 : sV S2 (100 * g + 4) = .ref r4) (hg5 : isK S2 r4 1 N4) (mN4 : N4 < 2 ^ 20) (b7 : ni < N4) (hv6 : sV S2 (100 * g + 5) = .ref r5) (hg6 : isK S2 r5 1 N5) (mN5 : N5 < 2 ^ 20) (b8 : ni < N5) (c3 : Ans (d + 8) 383 [.ref 61, .int (nI e1), .long (sL S2 r4 ni), .long (sL S2 r5 ni), .int (nI 1)] S2 none S3) (hB : ∀ lv1 : sm_L, sm_get lv1 0 = some (.ref 61) → sm_get lv1 1 = some (.ref g) → sm_get lv1 2 = some (.int (nI 0)) → sm_get lv1 3 = some (.int (nI (ni + 1))) → Bod (d + 8) 387 95 lv1 [] (S3) v Sf) : Bod (d + 8) 387 95 lv [] S v Sf := by
  refine Bod.ildnG dc_387_95 (by repeat (first | exact q3 | exact sm_get_p1 | exact sm_get_p2e | refine sm_get_p1m (by decide) (by decide) ?_ | refine sm_get_p1n (by decide) rfl ?_ | refine sm_get_p2n (by decide) (by decide) rfl ?_ | refine sm_get_p2m (by decide) (by decide) (by decide) ?_)) ?_
  refine Bod.aldnG dc_387_96 (by repeat (first | exact q1 | exact sm_get_p1 | exact sm_get_p2e | refine sm_get_p1m (by decide) (by decide) ?_ | refine sm_get_p1n (by decide) rfl ?_ | refine sm_get_p2n (by decide) (by decide) rfl ?_ | refine sm_get_p2m (by decide) (by decide) (by decide) ?_)) ?_
  refine Bod.get dc_387_97 fr_387_459 (mk_thing ag (by first | exact hz1 | (simp only [rIS, rJS, rAS, rLS, rVS, rQS, rS_hold]; exact hz1))) rfl ?_
  refine Bod.eqI (nI fd1) (by first | assumption | rfl | exact congrArg nI (by omega) | (simp (disch := omega) only [rIn, rIe, rA, rIA, rLA, rJA, rVI, rQI, rVA, rQA, upd_at,  rAI, rLI, rJI, nI_add, pk_sub, kc_0, kc_1, kc_2, kc_3, kc_4, kc_5, reduceIte, Nat.reduceEqDiff, Nat.add_zero, rI_hold, rI_hold, rL_hold, hfd1]; done)) ?_
  refine Bod.icF dc_387_100 rfl (k2_ge_F ni fd1 rfl rfl (by omega) (by omega)) ?_
  refine Bod.ildnG dc_387_103 (by repeat (first | exact q3 | exact sm_get_p1 | exact sm_get_p2e | refine sm_get_p1m (by decide) (by decide) ?_ | refine sm_get_p1n (by decide) rfl ?_ | refine sm_get_p2n (by decide) (by decide) rfl ?_ | refine sm_get_p2m (by decide) (by decide) (by decide) ?_)) ?_
  refine Bod.ifT dc_387_104 rfl (k1_le_T (k_eq ni 0 (by first | assumption | rfl | exact congrArg nI (by omega) | (simp (disch := omega) only [rIn, rIe, rA, rIA, rLA, rJA, rVI, rQI, rVA, rQA, upd_at,  rAI, rLI, rJI, nI_add, pk_sub, kc_0, kc_1, kc_2, kc_3, kc_4, kc_5, reduceIte, Nat.reduceEqDiff, Nat.add_zero, rI_hold, rI_hold, rL_hold, hfd1]; done)) rfl (by omega))) ?_
  refine Bod.aldnG dc_387_114 (by repeat (first | exact q0 | exact sm_get_p1 | exact sm_get_p2e | refine sm_get_p1m (by decide) (by decide) ?_ | refine sm_get_p1n (by decide) rfl ?_ | refine sm_get_p2n (by decide) (by decide) rfl ?_ | refine sm_get_p2m (by decide) (by decide) (by decide) ?_)) ?_
  refine Bod.aldnG dc_387_115 (by repeat (first | exact q1 | exact sm_get_p1 | exact sm_get_p2e | refine sm_get_p1m (by decide) (by decide) ?_ | refine sm_get_p1n (by decide) rfl ?_ | refine sm_get_p2n (by decide) (by decide) rfl ?_ | refine sm_get_p2m (by decide) (by decide) (by decide) ?_)) ?_
  refine Bod.get dc_387_116 fr_387_719 (mk_thing ag (by first | exact hz1 | (simp only [rIS, rJS, rAS, rLS, rVS, rQS, rS_hold]; exact hz1))) rfl ?_
  refine Bod.eqV (.ref r) (by first | exact hv1 | (simp only [rIV, rJV, rAV, rLV, rQV, rV, reduceIte, Nat.reduceEqDiff]; exact hv1) | (simp only [rIV, rJV, rAV, rLV, rQV, rV]; repeat rw [if_neg (by omega)]; exact hv1)) ?_
  refine Bod.ildnG dc_387_119 (by repeat (first | exact q3 | exact sm_get_p1 | exact sm_get_p2e | refine sm_get_p1m (by decide) (by decide) ?_ | refine sm_get_p1n (by decide) rfl ?_ | refine sm_get_p2n (by decide) (by decide) rfl ?_ | refine sm_get_p2m (by decide) (by decide) (by decide) ?_)) ?_
  refine Bod.ialdN (N := N) ni rfl (by omega) (by omega) dc_387_120 (mk_isI (by first | exact hg1 | exact isK_S (by simp only [rIS, rJS, rAS, rLS, rVS, rQS, rS_hold]) hg1)) ?_
  refine Bod.eqI (nI e) (by first | assumption | rfl | exact congrArg nI (by omega) | (simp (disch := omega) only [rIn, rIe, rA, rIA, rLA, rJA, rVI, rQI, rVA, rQA, upd_at,  rAI, rLI, rJI, nI_add, pk_sub, kc_0, kc_1, kc_2, kc_3, kc_4, kc_5, reduceIte, Nat.reduceEqDiff, Nat.add_zero, rI_hold, rI_hold, rL_hold, hfd1, he]; done)) ?_
  refine Bod.aldnG dc_387_121 (by repeat (first | exact q1 | exact sm_get_p1 | exact sm_get_p2e | refine sm_get_p1m (by decide) (by decide) ?_ | refine sm_get_p1n (by decide) rfl ?_ | refine sm_get_p2n (by decide) (by decide) rfl ?_ | refine sm_get_p2m (by decide) (by decide) (by decide) ?_)) ?_
  refine Bod.get dc_387_122 fr_387_722 (mk_thing ag (by first | exact hz1 | (simp only [rIS, rJS, rAS, rLS, rVS, rQS, rS_hold]; exact hz1))) rfl ?_
  refine Bod.eqV (.ref r1) (by first | exact hv2 | (simp only [rIV, rJV, rAV, rLV, rQV, rV, reduceIte, Nat.reduceEqDiff]; exact hv2) | (simp only [rIV, rJV, rAV, rLV, rQV, rV]; repeat rw [if_neg (by omega)]; exact hv2)) ?_
  refine Bod.ildnG dc_387_125 (by repeat (first | exact q3 | exact sm_get_p1 | exact sm_get_p2e | refine sm_get_p1m (by decide) (by decide) ?_ | refine sm_get_p1n (by decide) rfl ?_ | refine sm_get_p2n (by decide) (by decide) rfl ?_ | refine sm_get_p2m (by decide) (by decide) (by decide) ?_)) ?_
  refine Bod.laldN (N := N1) ni rfl (by omega) (by omega) dc_387_126 (mk_isL (by first | exact hg2 | exact isK_S (by simp only [rIS, rJS, rAS, rLS, rVS, rQS, rS_hold]) hg2)) ?_
  refine Bod.aldnG dc_387_127 (by repeat (first | exact q1 | exact sm_get_p1 | exact sm_get_p2e | refine sm_get_p1m (by decide) (by decide) ?_ | refine sm_get_p1n (by decide) rfl ?_ | refine sm_get_p2n (by decide) (by decide) rfl ?_ | refine sm_get_p2m (by decide) (by decide) (by decide) ?_)) ?_
  refine Bod.get dc_387_128 fr_387_725 (mk_thing ag (by first | exact hz1 | (simp only [rIS, rJS, rAS, rLS, rVS, rQS, rS_hold]; exact hz1))) rfl ?_
  refine Bod.eqV (.ref r2) (by first | exact hv3 | (simp only [rIV, rJV, rAV, rLV, rQV, rV, reduceIte, Nat.reduceEqDiff]; exact hv3) | (simp only [rIV, rJV, rAV, rLV, rQV, rV]; repeat rw [if_neg (by omega)]; exact hv3)) ?_
  refine Bod.ildnG dc_387_131 (by repeat (first | exact q3 | exact sm_get_p1 | exact sm_get_p2e | refine sm_get_p1m (by decide) (by decide) ?_ | refine sm_get_p1n (by decide) rfl ?_ | refine sm_get_p2n (by decide) (by decide) rfl ?_ | refine sm_get_p2m (by decide) (by decide) (by decide) ?_)) ?_
  refine Bod.laldN (N := N2) ni rfl (by omega) (by omega) dc_387_132 (mk_isL (by first | exact hg3 | exact isK_S (by simp only [rIS, rJS, rAS, rLS, rVS, rQS, rS_hold]) hg3)) ?_
  refine Bod.ic 1 (by decide) dc_387_133 ?_
  refine Bod.virt (r := []) dc_387_134 kr_387_831 ⟨Or.inl rfl, ow_383, cl_14⟩ (by rw [np_383]; rfl) (by rw [np_383]; rfl) (ob_of (mk_61 _)) (Nat.le_of_ble_eq_true rfl) (c1  ) ?_
  show Bod _ _ _ _ [] _ _ _
  refine Bod.aldnG dc_387_137 (by repeat (first | exact q0 | exact sm_get_p1 | exact sm_get_p2e | refine sm_get_p1m (by decide) (by decide) ?_ | refine sm_get_p1n (by decide) rfl ?_ | refine sm_get_p2n (by decide) (by decide) rfl ?_ | refine sm_get_p2m (by decide) (by decide) (by decide) ?_)) ?_
  refine Bod.ldcW dc_387_138 cs_387_834 ?_
  refine Bod.virt (r := []) dc_387_141 kr_387_821 ⟨Or.inl rfl, ow_384, cl_14⟩ (by rw [np_384]; rfl) (by rw [np_384]; rfl) (ob_of (mk_61 _)) (Nat.le_of_ble_eq_true rfl) (c2  ) ?_
  show Bod _ _ _ _ [] _ _ _
  refine Bod.aldnG dc_387_144 (by repeat (first | exact q0 | exact sm_get_p1 | exact sm_get_p2e | refine sm_get_p1m (by decide) (by decide) ?_ | refine sm_get_p1n (by decide) rfl ?_ | refine sm_get_p2n (by decide) (by decide) rfl ?_ | refine sm_get_p2m (by decide) (by decide) (by decide) ?_)) ?_
  refine Bod.aldnG dc_387_145 (by repeat (first | exact q1 | exact sm_get_p1 | exact sm_get_p2e | refine sm_get_p1m (by decide) (by decide) ?_ | refine sm_get_p1n (by decide) rfl ?_ | refine sm_get_p2n (by decide) (by decide) rfl ?_ | refine sm_get_p2m (by decide) (by decide) (by decide) ?_)) ?_
  refine Bod.get dc_387_146 fr_387_462 (mk_thing ag (by first | exact hz2 | (simp only [rIS, rJS, rAS, rLS, rVS, rQS, rS_hold]; exact hz2))) rfl ?_
  refine Bod.eqV (.ref r3) (by first | exact hv4 | (simp only [rIV, rJV, rAV, rLV, rQV, rV, reduceIte, Nat.reduceEqDiff]; exact hv4) | (simp only [rIV, rJV, rAV, rLV, rQV, rV]; repeat rw [if_neg (by omega)]; exact hv4)) ?_
  refine Bod.ildnG dc_387_149 (by repeat (first | exact q3 | exact sm_get_p1 | exact sm_get_p2e | refine sm_get_p1m (by decide) (by decide) ?_ | refine sm_get_p1n (by decide) rfl ?_ | refine sm_get_p2n (by decide) (by decide) rfl ?_ | refine sm_get_p2m (by decide) (by decide) (by decide) ?_)) ?_
  refine Bod.ialdN (N := N3) ni rfl (by omega) (by omega) dc_387_150 (mk_isI (by first | exact hg4 | exact isK_S (by simp only [rIS, rJS, rAS, rLS, rVS, rQS, rS_hold]) hg4)) ?_
  refine Bod.eqI (nI e1) (by first | assumption | (simp (disch := omega) only [rIn, rIe, rA, rIA, rLA, rJA, rVI, rQI, rVA, rQA, upd_at,  rAI, rLI, rJI, nI_add, pk_sub, kc_0, kc_1, kc_2, kc_3, kc_4, kc_5, reduceIte, Nat.reduceEqDiff, Nat.add_zero, rI_hold, rI_hold, rL_hold, hfd1, he, he1]; done) | (simp (disch := omega) only [rIn, rIe, rA, rIA, rLA, rJA, rVI, rQI, rVA, rQA, upd_at,  rAI, rLI, rJI, nI_add, pk_sub, kc_0, kc_1, kc_2, kc_3, kc_4, kc_5, reduceIte, Nat.reduceEqDiff, Nat.add_zero, rI_hold, rI_hold, rL_hold, hfd1, he, he1]; exact congrArg nI (by omega))) ?_
  refine Bod.aldnG dc_387_151 (by repeat (first | exact q1 | exact sm_get_p1 | exact sm_get_p2e | refine sm_get_p1m (by decide) (by decide) ?_ | refine sm_get_p1n (by decide) rfl ?_ | refine sm_get_p2n (by decide) (by decide) rfl ?_ | refine sm_get_p2m (by decide) (by decide) (by decide) ?_)) ?_
  refine Bod.get dc_387_152 fr_387_465 (mk_thing ag (by first | exact hz2 | (simp only [rIS, rJS, rAS, rLS, rVS, rQS, rS_hold]; exact hz2))) rfl ?_
  refine Bod.eqV (.ref r4) (by first | exact hv5 | (simp only [rIV, rJV, rAV, rLV, rQV, rV, reduceIte, Nat.reduceEqDiff]; exact hv5) | (simp only [rIV, rJV, rAV, rLV, rQV, rV]; repeat rw [if_neg (by omega)]; exact hv5)) ?_
  refine Bod.ildnG dc_387_155 (by repeat (first | exact q3 | exact sm_get_p1 | exact sm_get_p2e | refine sm_get_p1m (by decide) (by decide) ?_ | refine sm_get_p1n (by decide) rfl ?_ | refine sm_get_p2n (by decide) (by decide) rfl ?_ | refine sm_get_p2m (by decide) (by decide) (by decide) ?_)) ?_
  refine Bod.laldN (N := N4) ni rfl (by omega) (by omega) dc_387_156 (mk_isL (by first | exact hg5 | exact isK_S (by simp only [rIS, rJS, rAS, rLS, rVS, rQS, rS_hold]) hg5)) ?_
  refine Bod.aldnG dc_387_157 (by repeat (first | exact q1 | exact sm_get_p1 | exact sm_get_p2e | refine sm_get_p1m (by decide) (by decide) ?_ | refine sm_get_p1n (by decide) rfl ?_ | refine sm_get_p2n (by decide) (by decide) rfl ?_ | refine sm_get_p2m (by decide) (by decide) (by decide) ?_)) ?_
  refine Bod.get dc_387_158 fr_387_627 (mk_thing ag (by first | exact hz2 | (simp only [rIS, rJS, rAS, rLS, rVS, rQS, rS_hold]; exact hz2))) rfl ?_
  refine Bod.eqV (.ref r5) (by first | exact hv6 | (simp only [rIV, rJV, rAV, rLV, rQV, rV, reduceIte, Nat.reduceEqDiff]; exact hv6) | (simp only [rIV, rJV, rAV, rLV, rQV, rV]; repeat rw [if_neg (by omega)]; exact hv6)) ?_
  refine Bod.ildnG dc_387_161 (by repeat (first | exact q3 | exact sm_get_p1 | exact sm_get_p2e | refine sm_get_p1m (by decide) (by decide) ?_ | refine sm_get_p1n (by decide) rfl ?_ | refine sm_get_p2n (by decide) (by decide) rfl ?_ | refine sm_get_p2m (by decide) (by decide) (by decide) ?_)) ?_
  refine Bod.laldN (N := N5) ni rfl (by omega) (by omega) dc_387_162 (mk_isL (by first | exact hg6 | exact isK_S (by simp only [rIS, rJS, rAS, rLS, rVS, rQS, rS_hold]) hg6)) ?_
  refine Bod.ic 1 (by decide) dc_387_163 ?_
  refine Bod.virt (r := []) dc_387_164 kr_387_831 ⟨Or.inl rfl, ow_383, cl_14⟩ (by rw [np_383]; rfl) (by rw [np_383]; rfl) (ob_of (mk_61 _)) (Nat.le_of_ble_eq_true rfl) (c3  ) ?_
  show Bod _ _ _ _ [] _ _ _
  refine Bod.incN (ni + 1) (by rw [kc_1, nI_add]) dc_387_167 (by rw [ml_387]; exact Nat.le_of_ble_eq_true rfl) (by repeat (first | exact q3 | exact sm_get_p1 | exact sm_get_p2e | refine sm_get_p1m (by decide) (by decide) ?_ | refine sm_get_p1n (by decide) rfl ?_ | refine sm_get_p2n (by decide) (by decide) rfl ?_ | refine sm_get_p2m (by decide) (by decide) (by decide) ?_)) ?_
  refine Bod.go dc_387_170 rfl ?_
  exact hB _ (by repeat (first | exact q0 | exact sm_get_p1 | exact sm_get_p2e | refine sm_get_p1m (by decide) (by decide) ?_ | refine sm_get_p1n (by decide) rfl ?_ | refine sm_get_p2n (by decide) (by decide) rfl ?_ | refine sm_get_p2m (by decide) (by decide) (by decide) ?_)) (by repeat (first | exact q1 | exact sm_get_p1 | exact sm_get_p2e | refine sm_get_p1m (by decide) (by decide) ?_ | refine sm_get_p1n (by decide) rfl ?_ | refine sm_get_p2n (by decide) (by decide) rfl ?_ | refine sm_get_p2m (by decide) (by decide) (by decide) ?_)) (by repeat (first | exact q2 | exact sm_get_p1 | exact sm_get_p2e | refine sm_get_p1m (by decide) (by decide) ?_ | refine sm_get_p1n (by decide) rfl ?_ | refine sm_get_p2n (by decide) (by decide) rfl ?_ | refine sm_get_p2m (by decide) (by decide) (by decide) ?_)) (by repeat (first | exact q0 | exact sm_get_p1 | exact sm_get_p2e | refine sm_get_p1m (by decide) (by decide) ?_ | refine sm_get_p1n (by decide) rfl ?_ | refine sm_get_p2n (by decide) (by decide) rfl ?_ | refine sm_get_p2m (by decide) (by decide) (by decide) ?_))
theorem rStB_3 {d : Nat} {S Sf : cS} {v : Option Value} {lv : sm_L} {g : Nat} {zg : Nat} {ni : Nat} {fd1 : Nat} {S1 : cS} {r : Nat} {N : Nat} {e : Nat} {r1 : Nat} {N1 : Nat} {r2 : Nat} {N2 : Nat} {S2 : cS} {S3 : cS} {r3 : Nat} {N3 : Nat} {e1 : Nat} {r4 : Nat} {N4 : Nat} {r5 : Nat} {N5 : Nat} {S4 : cS} (q0 : sm_get lv 0 = some (.ref 61)) (q1 : sm_get lv 1 = some (.ref g)) (q2 : sm_get lv 2 = some (.int (nI 0))) (q3 : sm_get lv 3 = some (.int (nI ni))) (mni : ni < 2 ^ 20) (ag : 108 ≤ g) (hz1 : (sS S)[g - 108]? = some (13, zg)) (hfd1 : sI S (100 * g + 1) = nI fd1) (mfd1 : fd1 < 2 ^ 20) (b1 : ni < fd1) (b2 : 0 < ni) (c1 : Ans (d + 8) 384 [.ref 61, .retAddr (2 * 4)] S none S1) (hz2 : (sS S1)[g - 108]? = some (13, zg)) (hv1 : sV S1 (100 * g + 3) = .ref r) (hg1 : isK S1 r 0 N) (mN : N < 2 ^ 20) (b3 : ni < N) (he : sA S1 r ni = nI e) (me : e < 2 ^ 20) (hv2 : sV S1 (100 * g + 6) = .ref r1) (hg2 : isK S1 r1 1 N1) (mN1 : N1 < 2 ^ 20) (b4 : ni < N1) (hv3 : sV S1 (100 * g + 7) = .ref r2) (hg3 : isK S1 r2 1 N2) (mN2 : N2 < 2 ^ 20) (b5 : ni < N2) (c2 : Ans (d + 8) 383 [.ref 61, .int (nI e), .long (sL S1 r1 ni), .long (sL S1 r2 ni), .int (nI 1)] S1 none S2) (c3 : Ans (d + 8) 384 [.ref 61, .retAddr (2 * 12)] S2 none S3) (hz3 : (sS S3)[g - 108]? = some (13, zg)) (hv4 : sV S3 (100 * g + 2) = .ref r3) (hg4 : isK S3 r3 0 N3) (mN3 : N3 < 2 ^ 20) (b6 : ni < N3) (he1 : sA S3 r3 ni = nI e1) (me1 : e1 < 2 ^ 20) (hv5 : sV S3 (100 * g + 4) = .ref r4) (hg5 : isK S3 r4 1 N4) (mN4 : N4 < 2 ^ 20) (b7 : ni < N4) (hv6 : sV S3 (100 * g + 5) = .ref r5) (hg6 : isK S3 r5 1 N5) (mN5 : N5 < 2 ^ 20) (b8 : ni < N5) (c4 : Ans (d + 8) 383 [.ref 61, .int (nI e1), .long (sL S3 r4 ni), .long (sL S3 r5 ni), .int (nI 1)] S3 none S4) (hB : ∀ lv1 : sm_L, sm_get lv1 0 = some (.ref 61) → sm_get lv1 1 = some (.ref g) → sm_get lv1 2 = some (.int (nI 0)) → sm_get lv1 3 = some (.int (nI (ni + 1))) → Bod (d + 8) 387 95 lv1 [] (S4) v Sf) : Bod (d + 8) 387 95 lv [] S v Sf := by
  refine Bod.ildnG dc_387_95 (by repeat (first | exact q3 | exact sm_get_p1 | exact sm_get_p2e | refine sm_get_p1m (by decide) (by decide) ?_ | refine sm_get_p1n (by decide) rfl ?_ | refine sm_get_p2n (by decide) (by decide) rfl ?_ | refine sm_get_p2m (by decide) (by decide) (by decide) ?_)) ?_
  refine Bod.aldnG dc_387_96 (by repeat (first | exact q1 | exact sm_get_p1 | exact sm_get_p2e | refine sm_get_p1m (by decide) (by decide) ?_ | refine sm_get_p1n (by decide) rfl ?_ | refine sm_get_p2n (by decide) (by decide) rfl ?_ | refine sm_get_p2m (by decide) (by decide) (by decide) ?_)) ?_
  refine Bod.get dc_387_97 fr_387_459 (mk_thing ag (by first | exact hz1 | (simp only [rIS, rJS, rAS, rLS, rVS, rQS, rS_hold]; exact hz1))) rfl ?_
  refine Bod.eqI (nI fd1) (by first | assumption | rfl | exact congrArg nI (by omega) | (simp (disch := omega) only [rIn, rIe, rA, rIA, rLA, rJA, rVI, rQI, rVA, rQA, upd_at,  rAI, rLI, rJI, nI_add, pk_sub, kc_0, kc_1, kc_2, kc_3, kc_4, kc_5, reduceIte, Nat.reduceEqDiff, Nat.add_zero, rI_hold, rI_hold, rL_hold, hfd1]; done)) ?_
  refine Bod.icF dc_387_100 rfl (k2_ge_F ni fd1 rfl rfl (by omega) (by omega)) ?_
  refine Bod.ildnG dc_387_103 (by repeat (first | exact q3 | exact sm_get_p1 | exact sm_get_p2e | refine sm_get_p1m (by decide) (by decide) ?_ | refine sm_get_p1n (by decide) rfl ?_ | refine sm_get_p2n (by decide) (by decide) rfl ?_ | refine sm_get_p2m (by decide) (by decide) (by decide) ?_)) ?_
  refine Bod.ifF dc_387_104 rfl (k1_le_F ni rfl (by omega) (by omega)) ?_
  refine Bod.aldnG dc_387_107 (by repeat (first | exact q0 | exact sm_get_p1 | exact sm_get_p2e | refine sm_get_p1m (by decide) (by decide) ?_ | refine sm_get_p1n (by decide) rfl ?_ | refine sm_get_p2n (by decide) (by decide) rfl ?_ | refine sm_get_p2m (by decide) (by decide) (by decide) ?_)) ?_
  refine Bod.ldcW dc_387_108 cs_387_829 ?_
  refine Bod.virt (r := []) dc_387_111 kr_387_821 ⟨Or.inl rfl, ow_384, cl_14⟩ (by rw [np_384]; rfl) (by rw [np_384]; rfl) (ob_of (mk_61 _)) (Nat.le_of_ble_eq_true rfl) (c1  ) ?_
  show Bod _ _ _ _ [] _ _ _
  refine Bod.aldnG dc_387_114 (by repeat (first | exact q0 | exact sm_get_p1 | exact sm_get_p2e | refine sm_get_p1m (by decide) (by decide) ?_ | refine sm_get_p1n (by decide) rfl ?_ | refine sm_get_p2n (by decide) (by decide) rfl ?_ | refine sm_get_p2m (by decide) (by decide) (by decide) ?_)) ?_
  refine Bod.aldnG dc_387_115 (by repeat (first | exact q1 | exact sm_get_p1 | exact sm_get_p2e | refine sm_get_p1m (by decide) (by decide) ?_ | refine sm_get_p1n (by decide) rfl ?_ | refine sm_get_p2n (by decide) (by decide) rfl ?_ | refine sm_get_p2m (by decide) (by decide) (by decide) ?_)) ?_
  refine Bod.get dc_387_116 fr_387_719 (mk_thing ag (by first | exact hz2 | (simp only [rIS, rJS, rAS, rLS, rVS, rQS, rS_hold]; exact hz2))) rfl ?_
  refine Bod.eqV (.ref r) (by first | exact hv1 | (simp only [rIV, rJV, rAV, rLV, rQV, rV, reduceIte, Nat.reduceEqDiff]; exact hv1) | (simp only [rIV, rJV, rAV, rLV, rQV, rV]; repeat rw [if_neg (by omega)]; exact hv1)) ?_
  refine Bod.ildnG dc_387_119 (by repeat (first | exact q3 | exact sm_get_p1 | exact sm_get_p2e | refine sm_get_p1m (by decide) (by decide) ?_ | refine sm_get_p1n (by decide) rfl ?_ | refine sm_get_p2n (by decide) (by decide) rfl ?_ | refine sm_get_p2m (by decide) (by decide) (by decide) ?_)) ?_
  refine Bod.ialdN (N := N) ni rfl (by omega) (by omega) dc_387_120 (mk_isI (by first | exact hg1 | exact isK_S (by simp only [rIS, rJS, rAS, rLS, rVS, rQS, rS_hold]) hg1)) ?_
  refine Bod.eqI (nI e) (by first | assumption | (simp (disch := omega) only [rIn, rIe, rA, rIA, rLA, rJA, rVI, rQI, rVA, rQA, upd_at,  rAI, rLI, rJI, nI_add, pk_sub, kc_0, kc_1, kc_2, kc_3, kc_4, kc_5, reduceIte, Nat.reduceEqDiff, Nat.add_zero, rI_hold, rI_hold, rL_hold, hfd1, he]; done) | (simp (disch := omega) only [rIn, rIe, rA, rIA, rLA, rJA, rVI, rQI, rVA, rQA, upd_at,  rAI, rLI, rJI, nI_add, pk_sub, kc_0, kc_1, kc_2, kc_3, kc_4, kc_5, reduceIte, Nat.reduceEqDiff, Nat.add_zero, rI_hold, rI_hold, rL_hold, hfd1, he]; exact congrArg nI (by omega))) ?_
  refine Bod.aldnG dc_387_121 (by repeat (first | exact q1 | exact sm_get_p1 | exact sm_get_p2e | refine sm_get_p1m (by decide) (by decide) ?_ | refine sm_get_p1n (by decide) rfl ?_ | refine sm_get_p2n (by decide) (by decide) rfl ?_ | refine sm_get_p2m (by decide) (by decide) (by decide) ?_)) ?_
  refine Bod.get dc_387_122 fr_387_722 (mk_thing ag (by first | exact hz2 | (simp only [rIS, rJS, rAS, rLS, rVS, rQS, rS_hold]; exact hz2))) rfl ?_
  refine Bod.eqV (.ref r1) (by first | exact hv2 | (simp only [rIV, rJV, rAV, rLV, rQV, rV, reduceIte, Nat.reduceEqDiff]; exact hv2) | (simp only [rIV, rJV, rAV, rLV, rQV, rV]; repeat rw [if_neg (by omega)]; exact hv2)) ?_
  refine Bod.ildnG dc_387_125 (by repeat (first | exact q3 | exact sm_get_p1 | exact sm_get_p2e | refine sm_get_p1m (by decide) (by decide) ?_ | refine sm_get_p1n (by decide) rfl ?_ | refine sm_get_p2n (by decide) (by decide) rfl ?_ | refine sm_get_p2m (by decide) (by decide) (by decide) ?_)) ?_
  refine Bod.laldN (N := N1) ni rfl (by omega) (by omega) dc_387_126 (mk_isL (by first | exact hg2 | exact isK_S (by simp only [rIS, rJS, rAS, rLS, rVS, rQS, rS_hold]) hg2)) ?_
  refine Bod.aldnG dc_387_127 (by repeat (first | exact q1 | exact sm_get_p1 | exact sm_get_p2e | refine sm_get_p1m (by decide) (by decide) ?_ | refine sm_get_p1n (by decide) rfl ?_ | refine sm_get_p2n (by decide) (by decide) rfl ?_ | refine sm_get_p2m (by decide) (by decide) (by decide) ?_)) ?_
  refine Bod.get dc_387_128 fr_387_725 (mk_thing ag (by first | exact hz2 | (simp only [rIS, rJS, rAS, rLS, rVS, rQS, rS_hold]; exact hz2))) rfl ?_
  refine Bod.eqV (.ref r2) (by first | exact hv3 | (simp only [rIV, rJV, rAV, rLV, rQV, rV, reduceIte, Nat.reduceEqDiff]; exact hv3) | (simp only [rIV, rJV, rAV, rLV, rQV, rV]; repeat rw [if_neg (by omega)]; exact hv3)) ?_
  refine Bod.ildnG dc_387_131 (by repeat (first | exact q3 | exact sm_get_p1 | exact sm_get_p2e | refine sm_get_p1m (by decide) (by decide) ?_ | refine sm_get_p1n (by decide) rfl ?_ | refine sm_get_p2n (by decide) (by decide) rfl ?_ | refine sm_get_p2m (by decide) (by decide) (by decide) ?_)) ?_
  refine Bod.laldN (N := N2) ni rfl (by omega) (by omega) dc_387_132 (mk_isL (by first | exact hg3 | exact isK_S (by simp only [rIS, rJS, rAS, rLS, rVS, rQS, rS_hold]) hg3)) ?_
  refine Bod.ic 1 (by decide) dc_387_133 ?_
  refine Bod.virt (r := []) dc_387_134 kr_387_831 ⟨Or.inl rfl, ow_383, cl_14⟩ (by rw [np_383]; rfl) (by rw [np_383]; rfl) (ob_of (mk_61 _)) (Nat.le_of_ble_eq_true rfl) (c2  ) ?_
  show Bod _ _ _ _ [] _ _ _
  refine Bod.aldnG dc_387_137 (by repeat (first | exact q0 | exact sm_get_p1 | exact sm_get_p2e | refine sm_get_p1m (by decide) (by decide) ?_ | refine sm_get_p1n (by decide) rfl ?_ | refine sm_get_p2n (by decide) (by decide) rfl ?_ | refine sm_get_p2m (by decide) (by decide) (by decide) ?_)) ?_
  refine Bod.ldcW dc_387_138 cs_387_834 ?_
  refine Bod.virt (r := []) dc_387_141 kr_387_821 ⟨Or.inl rfl, ow_384, cl_14⟩ (by rw [np_384]; rfl) (by rw [np_384]; rfl) (ob_of (mk_61 _)) (Nat.le_of_ble_eq_true rfl) (c3  ) ?_
  show Bod _ _ _ _ [] _ _ _
  refine Bod.aldnG dc_387_144 (by repeat (first | exact q0 | exact sm_get_p1 | exact sm_get_p2e | refine sm_get_p1m (by decide) (by decide) ?_ | refine sm_get_p1n (by decide) rfl ?_ | refine sm_get_p2n (by decide) (by decide) rfl ?_ | refine sm_get_p2m (by decide) (by decide) (by decide) ?_)) ?_
  refine Bod.aldnG dc_387_145 (by repeat (first | exact q1 | exact sm_get_p1 | exact sm_get_p2e | refine sm_get_p1m (by decide) (by decide) ?_ | refine sm_get_p1n (by decide) rfl ?_ | refine sm_get_p2n (by decide) (by decide) rfl ?_ | refine sm_get_p2m (by decide) (by decide) (by decide) ?_)) ?_
  refine Bod.get dc_387_146 fr_387_462 (mk_thing ag (by first | exact hz3 | (simp only [rIS, rJS, rAS, rLS, rVS, rQS, rS_hold]; exact hz3))) rfl ?_
  refine Bod.eqV (.ref r3) (by first | exact hv4 | (simp only [rIV, rJV, rAV, rLV, rQV, rV, reduceIte, Nat.reduceEqDiff]; exact hv4) | (simp only [rIV, rJV, rAV, rLV, rQV, rV]; repeat rw [if_neg (by omega)]; exact hv4)) ?_
  refine Bod.ildnG dc_387_149 (by repeat (first | exact q3 | exact sm_get_p1 | exact sm_get_p2e | refine sm_get_p1m (by decide) (by decide) ?_ | refine sm_get_p1n (by decide) rfl ?_ | refine sm_get_p2n (by decide) (by decide) rfl ?_ | refine sm_get_p2m (by decide) (by decide) (by decide) ?_)) ?_
  refine Bod.ialdN (N := N3) ni rfl (by omega) (by omega) dc_387_150 (mk_isI (by first | exact hg4 | exact isK_S (by simp only [rIS, rJS, rAS, rLS, rVS, rQS, rS_hold]) hg4)) ?_
  refine Bod.eqI (nI e1) (by first | assumption | (simp (disch := omega) only [rIn, rIe, rA, rIA, rLA, rJA, rVI, rQI, rVA, rQA, upd_at,  rAI, rLI, rJI, nI_add, pk_sub, kc_0, kc_1, kc_2, kc_3, kc_4, kc_5, reduceIte, Nat.reduceEqDiff, Nat.add_zero, rI_hold, rI_hold, rL_hold, hfd1, he, he1]; done) | (simp (disch := omega) only [rIn, rIe, rA, rIA, rLA, rJA, rVI, rQI, rVA, rQA, upd_at,  rAI, rLI, rJI, nI_add, pk_sub, kc_0, kc_1, kc_2, kc_3, kc_4, kc_5, reduceIte, Nat.reduceEqDiff, Nat.add_zero, rI_hold, rI_hold, rL_hold, hfd1, he, he1]; exact congrArg nI (by omega))) ?_
  refine Bod.aldnG dc_387_151 (by repeat (first | exact q1 | exact sm_get_p1 | exact sm_get_p2e | refine sm_get_p1m (by decide) (by decide) ?_ | refine sm_get_p1n (by decide) rfl ?_ | refine sm_get_p2n (by decide) (by decide) rfl ?_ | refine sm_get_p2m (by decide) (by decide) (by decide) ?_)) ?_
  refine Bod.get dc_387_152 fr_387_465 (mk_thing ag (by first | exact hz3 | (simp only [rIS, rJS, rAS, rLS, rVS, rQS, rS_hold]; exact hz3))) rfl ?_
  refine Bod.eqV (.ref r4) (by first | exact hv5 | (simp only [rIV, rJV, rAV, rLV, rQV, rV, reduceIte, Nat.reduceEqDiff]; exact hv5) | (simp only [rIV, rJV, rAV, rLV, rQV, rV]; repeat rw [if_neg (by omega)]; exact hv5)) ?_
  refine Bod.ildnG dc_387_155 (by repeat (first | exact q3 | exact sm_get_p1 | exact sm_get_p2e | refine sm_get_p1m (by decide) (by decide) ?_ | refine sm_get_p1n (by decide) rfl ?_ | refine sm_get_p2n (by decide) (by decide) rfl ?_ | refine sm_get_p2m (by decide) (by decide) (by decide) ?_)) ?_
  refine Bod.laldN (N := N4) ni rfl (by omega) (by omega) dc_387_156 (mk_isL (by first | exact hg5 | exact isK_S (by simp only [rIS, rJS, rAS, rLS, rVS, rQS, rS_hold]) hg5)) ?_
  refine Bod.aldnG dc_387_157 (by repeat (first | exact q1 | exact sm_get_p1 | exact sm_get_p2e | refine sm_get_p1m (by decide) (by decide) ?_ | refine sm_get_p1n (by decide) rfl ?_ | refine sm_get_p2n (by decide) (by decide) rfl ?_ | refine sm_get_p2m (by decide) (by decide) (by decide) ?_)) ?_
  refine Bod.get dc_387_158 fr_387_627 (mk_thing ag (by first | exact hz3 | (simp only [rIS, rJS, rAS, rLS, rVS, rQS, rS_hold]; exact hz3))) rfl ?_
  refine Bod.eqV (.ref r5) (by first | exact hv6 | (simp only [rIV, rJV, rAV, rLV, rQV, rV, reduceIte, Nat.reduceEqDiff]; exact hv6) | (simp only [rIV, rJV, rAV, rLV, rQV, rV]; repeat rw [if_neg (by omega)]; exact hv6)) ?_
  refine Bod.ildnG dc_387_161 (by repeat (first | exact q3 | exact sm_get_p1 | exact sm_get_p2e | refine sm_get_p1m (by decide) (by decide) ?_ | refine sm_get_p1n (by decide) rfl ?_ | refine sm_get_p2n (by decide) (by decide) rfl ?_ | refine sm_get_p2m (by decide) (by decide) (by decide) ?_)) ?_
  refine Bod.laldN (N := N5) ni rfl (by omega) (by omega) dc_387_162 (mk_isL (by first | exact hg6 | exact isK_S (by simp only [rIS, rJS, rAS, rLS, rVS, rQS, rS_hold]) hg6)) ?_
  refine Bod.ic 1 (by decide) dc_387_163 ?_
  refine Bod.virt (r := []) dc_387_164 kr_387_831 ⟨Or.inl rfl, ow_383, cl_14⟩ (by rw [np_383]; rfl) (by rw [np_383]; rfl) (ob_of (mk_61 _)) (Nat.le_of_ble_eq_true rfl) (c4  ) ?_
  show Bod _ _ _ _ [] _ _ _
  refine Bod.incN (ni + 1) (by rw [kc_1, nI_add]) dc_387_167 (by rw [ml_387]; exact Nat.le_of_ble_eq_true rfl) (by repeat (first | exact q3 | exact sm_get_p1 | exact sm_get_p2e | refine sm_get_p1m (by decide) (by decide) ?_ | refine sm_get_p1n (by decide) rfl ?_ | refine sm_get_p2n (by decide) (by decide) rfl ?_ | refine sm_get_p2m (by decide) (by decide) (by decide) ?_)) ?_
  refine Bod.go dc_387_170 rfl ?_
  exact hB _ (by repeat (first | exact q0 | exact sm_get_p1 | exact sm_get_p2e | refine sm_get_p1m (by decide) (by decide) ?_ | refine sm_get_p1n (by decide) rfl ?_ | refine sm_get_p2n (by decide) (by decide) rfl ?_ | refine sm_get_p2m (by decide) (by decide) (by decide) ?_)) (by repeat (first | exact q1 | exact sm_get_p1 | exact sm_get_p2e | refine sm_get_p1m (by decide) (by decide) ?_ | refine sm_get_p1n (by decide) rfl ?_ | refine sm_get_p2n (by decide) (by decide) rfl ?_ | refine sm_get_p2m (by decide) (by decide) (by decide) ?_)) (by repeat (first | exact q2 | exact sm_get_p1 | exact sm_get_p2e | refine sm_get_p1m (by decide) (by decide) ?_ | refine sm_get_p1n (by decide) rfl ?_ | refine sm_get_p2n (by decide) (by decide) rfl ?_ | refine sm_get_p2m (by decide) (by decide) (by decide) ?_)) (by repeat (first | exact q0 | exact sm_get_p1 | exact sm_get_p2e | refine sm_get_p1m (by decide) (by decide) ?_ | refine sm_get_p1n (by decide) rfl ?_ | refine sm_get_p2n (by decide) (by decide) rfl ?_ | refine sm_get_p2m (by decide) (by decide) (by decide) ?_))
