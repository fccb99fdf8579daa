/-! THE LAW -/
theorem dc_1000_80 : decode (sm_cc 1000) 80 = .ok (.aload_n 1, 1) := by decide +kernel
theorem dc_1000_81 : decode (sm_cc 1000) 81 = .ok (.aload_n 0, 1) := by decide +kernel
theorem dc_1000_82 : decode (sm_cc 1000) 82 = .ok (.iload_n 3, 1) := by decide +kernel
theorem dc_1000_83 : decode (sm_cc 1000) 83 = .ok (.iconst 1, 1) := by decide +kernel
theorem dc_1000_84 : decode (sm_cc 1000) 84 = .ok (.iadd, 1) := by decide +kernel
theorem dc_1000_85 : decode (sm_cc 1000) 85 = .ok (.iaload, 1) := by decide +kernel
theorem dc_1000_86 : decode (sm_cc 1000) 86 = .ok (.aload_n 0, 1) := by decide +kernel
theorem dc_1000_87 : decode (sm_cc 1000) 87 = .ok (.iload_n 3, 1) := by decide +kernel
theorem dc_1000_88 : decode (sm_cc 1000) 88 = .ok (.iconst 2, 1) := by decide +kernel
theorem dc_1000_89 : decode (sm_cc 1000) 89 = .ok (.iadd, 1) := by decide +kernel
theorem dc_1000_90 : decode (sm_cc 1000) 90 = .ok (.iaload, 1) := by decide +kernel
theorem dc_1000_91 : decode (sm_cc 1000) 91 = .ok (.aload_n 0, 1) := by decide +kernel
theorem dc_1000_92 : decode (sm_cc 1000) 92 = .ok (.iload_n 3, 1) := by decide +kernel
theorem dc_1000_93 : decode (sm_cc 1000) 93 = .ok (.iconst 3, 1) := by decide +kernel
theorem dc_1000_94 : decode (sm_cc 1000) 94 = .ok (.iadd, 1) := by decide +kernel
theorem dc_1000_95 : decode (sm_cc 1000) 95 = .ok (.iaload, 1) := by decide +kernel
theorem dc_1000_96 : decode (sm_cc 1000) 96 = .ok (.aload_n 0, 1) := by decide +kernel
theorem dc_1000_97 : decode (sm_cc 1000) 97 = .ok (.iload_n 3, 1) := by decide +kernel
theorem dc_1000_98 : decode (sm_cc 1000) 98 = .ok (.iconst 4, 1) := by decide +kernel
theorem dc_1000_99 : decode (sm_cc 1000) 99 = .ok (.iadd, 1) := by decide +kernel
theorem dc_1000_100 : decode (sm_cc 1000) 100 = .ok (.iaload, 1) := by decide +kernel
theorem dc_1000_101 : decode (sm_cc 1000) 101 = .ok (.aload_n 0, 1) := by decide +kernel
theorem dc_1000_102 : decode (sm_cc 1000) 102 = .ok (.iload_n 3, 1) := by decide +kernel
theorem dc_1000_103 : decode (sm_cc 1000) 103 = .ok (.iconst 5, 1) := by decide +kernel
theorem dc_1000_104 : decode (sm_cc 1000) 104 = .ok (.iadd, 1) := by decide +kernel
theorem dc_1000_105 : decode (sm_cc 1000) 105 = .ok (.iaload, 1) := by decide +kernel
theorem ow_27 : 11 = sm_ow 27 := by decide +kernel
theorem dc_1000_106 : decode (sm_cc 1000) 106 = .ok (.invokevirtual 13, 3) := by decide +kernel
theorem kr_1000_13 : sm_at mt_k (sm_ow 1000) 13 = some (13, 0, 27, 0, 925) := by decide +kernel
theorem np_27 : sm_np 27 = 5 := by decide +kernel
theorem dc_1000_109 : decode (sm_cc 1000) 109 = .ok (.aload_n 2, 1) := by decide +kernel
theorem dc_1000_110 : decode (sm_cc 1000) 110 = .ok (.aload_n 0, 1) := by decide +kernel
theorem dc_1000_111 : decode (sm_cc 1000) 111 = .ok (.iload_n 3, 1) := by decide +kernel
theorem dc_1000_112 : decode (sm_cc 1000) 112 = .ok (.iconst 1, 1) := by decide +kernel
theorem dc_1000_113 : decode (sm_cc 1000) 113 = .ok (.iadd, 1) := by decide +kernel
theorem dc_1000_114 : decode (sm_cc 1000) 114 = .ok (.iaload, 1) := by decide +kernel
theorem dc_1000_115 : decode (sm_cc 1000) 115 = .ok (.aload_n 0, 1) := by decide +kernel
theorem dc_1000_116 : decode (sm_cc 1000) 116 = .ok (.iload_n 3, 1) := by decide +kernel
theorem dc_1000_117 : decode (sm_cc 1000) 117 = .ok (.iconst 2, 1) := by decide +kernel
theorem dc_1000_118 : decode (sm_cc 1000) 118 = .ok (.iadd, 1) := by decide +kernel
theorem dc_1000_119 : decode (sm_cc 1000) 119 = .ok (.iaload, 1) := by decide +kernel
theorem dc_1000_120 : decode (sm_cc 1000) 120 = .ok (.aload_n 0, 1) := by decide +kernel
theorem dc_1000_121 : decode (sm_cc 1000) 121 = .ok (.iload_n 3, 1) := by decide +kernel
theorem dc_1000_122 : decode (sm_cc 1000) 122 = .ok (.iconst 3, 1) := by decide +kernel
theorem dc_1000_123 : decode (sm_cc 1000) 123 = .ok (.iadd, 1) := by decide +kernel
theorem dc_1000_124 : decode (sm_cc 1000) 124 = .ok (.iaload, 1) := by decide +kernel
theorem dc_1000_125 : decode (sm_cc 1000) 125 = .ok (.aload_n 0, 1) := by decide +kernel
theorem dc_1000_126 : decode (sm_cc 1000) 126 = .ok (.iload_n 3, 1) := by decide +kernel
theorem dc_1000_127 : decode (sm_cc 1000) 127 = .ok (.iconst 4, 1) := by decide +kernel
theorem dc_1000_128 : decode (sm_cc 1000) 128 = .ok (.iadd, 1) := by decide +kernel
theorem dc_1000_129 : decode (sm_cc 1000) 129 = .ok (.iaload, 1) := by decide +kernel
theorem dc_1000_130 : decode (sm_cc 1000) 130 = .ok (.aload_n 0, 1) := by decide +kernel
theorem dc_1000_131 : decode (sm_cc 1000) 131 = .ok (.iload_n 3, 1) := by decide +kernel
theorem dc_1000_132 : decode (sm_cc 1000) 132 = .ok (.iconst 5, 1) := by decide +kernel
theorem dc_1000_133 : decode (sm_cc 1000) 133 = .ok (.iadd, 1) := by decide +kernel
theorem dc_1000_134 : decode (sm_cc 1000) 134 = .ok (.iaload, 1) := by decide +kernel
theorem ow_282 : 14 = sm_ow 282 := by decide +kernel
theorem dc_1000_135 : decode (sm_cc 1000) 135 = .ok (.invokevirtual 17, 3) := by decide +kernel
theorem kr_1000_17 : sm_at mt_k (sm_ow 1000) 17 = some (17, 0, 282, 0, 2305) := by decide +kernel
theorem np_282 : sm_np 282 = 5 := by decide +kernel
theorem dc_1000_138 : decode (sm_cc 1000) 138 = .ok (.if_icmp .eq (177), 3) := by decide +kernel
theorem dc_1000_189 : decode (sm_cc 1000) 189 = .ok (.aload_n 1, 1) := by decide +kernel
theorem ow_269 : 11 = sm_ow 269 := by decide +kernel
theorem dc_1000_190 : decode (sm_cc 1000) 190 = .ok (.invokevirtual 27, 3) := by decide +kernel
theorem kr_1000_27 : sm_at mt_k (sm_ow 1000) 27 = some (27, 0, 269, 0, 2008) := by decide +kernel
theorem np_269 : sm_np 269 = 0 := by decide +kernel
theorem dc_1000_193 : decode (sm_cc 1000) 193 = .ok (.aload_n 2, 1) := by decide +kernel
theorem ow_421 : 14 = sm_ow 421 := by decide +kernel
theorem dc_1000_194 : decode (sm_cc 1000) 194 = .ok (.invokevirtual 31, 3) := by decide +kernel
theorem kr_1000_31 : sm_at mt_k (sm_ow 1000) 31 = some (31, 0, 421, 0, 3019) := by decide +kernel
theorem np_421 : sm_np 421 = 0 := by decide +kernel
theorem dc_1000_197 : decode (sm_cc 1000) 197 = .ok (.if_icmp .eq (118), 3) := by decide +kernel
theorem dc_1000_248 : decode (sm_cc 1000) 248 = .ok (.aload_n 1, 1) := by decide +kernel
theorem dc_1000_249 : decode (sm_cc 1000) 249 = .ok (.aload_n 0, 1) := by decide +kernel
theorem dc_1000_250 : decode (sm_cc 1000) 250 = .ok (.iload_n 3, 1) := by decide +kernel
theorem dc_1000_251 : decode (sm_cc 1000) 251 = .ok (.iconst 1, 1) := by decide +kernel
theorem dc_1000_252 : decode (sm_cc 1000) 252 = .ok (.iadd, 1) := by decide +kernel
theorem dc_1000_253 : decode (sm_cc 1000) 253 = .ok (.iaload, 1) := by decide +kernel
theorem dc_1000_254 : decode (sm_cc 1000) 254 = .ok (.i2l, 1) := by decide +kernel
theorem dc_1000_255 : decode (sm_cc 1000) 255 = .ok (.bipush (32), 2) := by decide +kernel
theorem dc_1000_257 : decode (sm_cc 1000) 257 = .ok (.lshl, 1) := by decide +kernel
theorem dc_1000_258 : decode (sm_cc 1000) 258 = .ok (.aload_n 0, 1) := by decide +kernel
theorem dc_1000_259 : decode (sm_cc 1000) 259 = .ok (.iload_n 3, 1) := by decide +kernel
theorem dc_1000_260 : decode (sm_cc 1000) 260 = .ok (.iconst 2, 1) := by decide +kernel
theorem dc_1000_261 : decode (sm_cc 1000) 261 = .ok (.iadd, 1) := by decide +kernel
theorem dc_1000_262 : decode (sm_cc 1000) 262 = .ok (.iaload, 1) := by decide +kernel
theorem dc_1000_263 : decode (sm_cc 1000) 263 = .ok (.i2l, 1) := by decide +kernel
theorem dc_1000_264 : decode (sm_cc 1000) 264 = .ok (.ldc2_w 40, 3) := by decide +kernel
theorem cj_1000_40 : sm_at mt_cj (sm_ow 1000) 40 = some (40, (4294967295), 3047) := by decide +kernel
theorem dc_1000_267 : decode (sm_cc 1000) 267 = .ok (.land, 1) := by decide +kernel
theorem dc_1000_268 : decode (sm_cc 1000) 268 = .ok (.lor, 1) := by decide +kernel
theorem ow_277 : 11 = sm_ow 277 := by decide +kernel
theorem dc_1000_269 : decode (sm_cc 1000) 269 = .ok (.invokevirtual 42, 3) := by decide +kernel
theorem kr_1000_42 : sm_at mt_k (sm_ow 1000) 42 = some (42, 0, 277, 0, 2041) := by decide +kernel
theorem np_277 : sm_np 277 = 1 := by decide +kernel
theorem dc_1000_272 : decode (sm_cc 1000) 272 = .ok (.aload_n 2, 1) := by decide +kernel
theorem dc_1000_273 : decode (sm_cc 1000) 273 = .ok (.aload_n 0, 1) := by decide +kernel
theorem dc_1000_274 : decode (sm_cc 1000) 274 = .ok (.iload_n 3, 1) := by decide +kernel
theorem dc_1000_275 : decode (sm_cc 1000) 275 = .ok (.iconst 1, 1) := by decide +kernel
theorem dc_1000_276 : decode (sm_cc 1000) 276 = .ok (.iadd, 1) := by decide +kernel
theorem dc_1000_277 : decode (sm_cc 1000) 277 = .ok (.iaload, 1) := by decide +kernel
theorem dc_1000_278 : decode (sm_cc 1000) 278 = .ok (.i2l, 1) := by decide +kernel
theorem dc_1000_279 : decode (sm_cc 1000) 279 = .ok (.bipush (32), 2) := by decide +kernel
theorem dc_1000_281 : decode (sm_cc 1000) 281 = .ok (.lshl, 1) := by decide +kernel
theorem dc_1000_282 : decode (sm_cc 1000) 282 = .ok (.aload_n 0, 1) := by decide +kernel
theorem dc_1000_283 : decode (sm_cc 1000) 283 = .ok (.iload_n 3, 1) := by decide +kernel
theorem dc_1000_284 : decode (sm_cc 1000) 284 = .ok (.iconst 2, 1) := by decide +kernel
theorem dc_1000_285 : decode (sm_cc 1000) 285 = .ok (.iadd, 1) := by decide +kernel
theorem dc_1000_286 : decode (sm_cc 1000) 286 = .ok (.iaload, 1) := by decide +kernel
theorem dc_1000_287 : decode (sm_cc 1000) 287 = .ok (.i2l, 1) := by decide +kernel
theorem dc_1000_288 : decode (sm_cc 1000) 288 = .ok (.ldc2_w 40, 3) := by decide +kernel
theorem dc_1000_291 : decode (sm_cc 1000) 291 = .ok (.land, 1) := by decide +kernel
theorem dc_1000_292 : decode (sm_cc 1000) 292 = .ok (.lor, 1) := by decide +kernel
theorem ow_424 : 14 = sm_ow 424 := by decide +kernel
theorem dc_1000_293 : decode (sm_cc 1000) 293 = .ok (.invokevirtual 46, 3) := by decide +kernel
theorem kr_1000_46 : sm_at mt_k (sm_ow 1000) 46 = some (46, 0, 424, 0, 3032) := by decide +kernel
theorem np_424 : sm_np 424 = 1 := by decide +kernel
theorem dc_1000_296 : decode (sm_cc 1000) 296 = .ok (.if_icmp .eq (19), 3) := by decide +kernel
theorem dc_1000_301 : decode (sm_cc 1000) 301 = .ok (.aload_n 1, 1) := by decide +kernel
theorem ow_280 : 11 = sm_ow 280 := by decide +kernel
theorem dc_1000_302 : decode (sm_cc 1000) 302 = .ok (.invokevirtual 47, 3) := by decide +kernel
theorem kr_1000_47 : sm_at mt_k (sm_ow 1000) 47 = some (47, 0, 280, 0, 2055) := by decide +kernel
theorem np_280 : sm_np 280 = 0 := by decide +kernel
theorem dc_1000_305 : decode (sm_cc 1000) 305 = .ok (.aload_n 2, 1) := by decide +kernel
theorem ow_426 : 14 = sm_ow 426 := by decide +kernel
theorem dc_1000_306 : decode (sm_cc 1000) 306 = .ok (.invokevirtual 51, 3) := by decide +kernel
theorem kr_1000_51 : sm_at mt_k (sm_ow 1000) 51 = some (51, 0, 426, 0, 3041) := by decide +kernel
theorem np_426 : sm_np 426 = 0 := by decide +kernel
theorem dc_1000_309 : decode (sm_cc 1000) 309 = .ok (.lcmp, 1) := by decide +kernel
theorem dc_1000_310 : decode (sm_cc 1000) 310 = .ok (.ifCond .eq (5), 3) := by decide +kernel
/-! THE LAW over states -/
/-- from here on the law answers 1, within the room -/
def LB (L : Nat) (xs : Nat → Int32) (pc : Nat) (lv : sm_L) (st : List Value) (S : cS) : Prop := ∃ (σ1 : sm_H) (u1 k : Nat), (∀ n m, k ≤ n → k ≤ m → sm_run (some (L, xs)) (sm_ev (some (L, xs)) 800 m) 1000 n (pc, lv, st, mk S, mu S) = some (some (.int 1), σ1, u1)) ∧ σ1.length ≤ 600000 ∧ u1 ≤ 7302250
variable {L pc pc1 k : Nat} {xs : Nat → Int32} {lv lv1 : sm_L} {st st1 r : List Value} {S S1 : cS} {i : Instr}
theorem LB.of (hs : ∀ cal n, sm_run (some (L, xs)) cal 1000 (n + 1) (pc, lv, st, mk S, mu S) = sm_run (some (L, xs)) cal 1000 n (pc1, lv1, st1, mk S1, mu S1)) (h : LB L xs pc1 lv1 st1 S1) : LB L xs pc lv st S := by
  obtain ⟨σ1, u1, k, h, hb⟩ := h
  refine ⟨σ1, u1, k + 1, fun n m hn hm => ?_, hb⟩
  obtain ⟨n1, rfl⟩ : ∃ n1, n = n1 + 1 := ⟨n - 1, by omega⟩
  exact (hs _ n1).trans (h n1 m (by omega) (by omega))
theorem LB.go (hd : decode (sm_cc 1000) pc = .ok (i, k)) (hs : sm_do (some (L, xs)) 1000 i k pc lv st (mk S) (mu S) = some (.inl (pc1, lv1, st1, mk S1, mu S1))) (h : LB L xs pc1 lv1 st1 S1) : LB L xs pc lv st S := LB.of (fun _ _ => sx_go hd hs) h
theorem LB.xlen (hd : decode (sm_cc 1000) pc = .ok (.arraylength, 1)) (h : LB L xs (pc + 1) lv (.int (Int32.ofNat L) :: st) S) : LB L xs pc lv (.retAddr 100000 :: st) S := LB.of (fun _ _ => sx_xlen hd) h
theorem LB.xget {x : Int32} (m : Nat) (ex : x = nI m) (hm : m < L) (hL : L < 2 ^ 31) (hd : decode (sm_cc 1000) pc = .ok (.iaload, 1)) (h : LB L xs (pc + 1) lv (.int (xs m) :: st) S) : LB L xs pc lv (.int x :: .retAddr 100000 :: st) S := by
  subst ex
  refine LB.of (fun _ _ => sx_xget hd (nI_in hm hL)) ?_
  rw [nI_clamp (by omega)]
  exact h
theorem LB.icT {c : Jvm.ClassFile.Cond} {off : Int} {x y : Int32} {t : Nat} (hd : decode (sm_cc 1000) pc = .ok (.if_icmp c off, 3)) (ht : sm_tg pc off = some t) (hx : sm_c2 c x y true false = true) (h : LB L xs t lv st S) : LB L xs pc lv (.int y :: .int x :: st) S := LB.of (fun _ _ => sx_ic_t hd ht hx) h
theorem LB.icF {c : Jvm.ClassFile.Cond} {off : Int} {x y : Int32} {t : Nat} (hd : decode (sm_cc 1000) pc = .ok (.if_icmp c off, 3)) (ht : sm_tg pc off = some t) (hx : sm_c2 c x y true false = false) (h : LB L xs (pc + 3) lv st S) : LB L xs pc lv (.int y :: .int x :: st) S := LB.of (fun _ _ => sx_ic_f hd ht hx) h
theorem LB.ifT {c : Jvm.ClassFile.Cond} {off : Int} {x : Int32} {t : Nat} (hd : decode (sm_cc 1000) pc = .ok (.ifCond c off, 3)) (ht : sm_tg pc off = some t) (hx : sm_c1 c x true false = true) (h : LB L xs t lv st S) : LB L xs pc lv (.int x :: st) S := LB.of (fun _ _ => sx_if_t hd ht hx) h
theorem LB.inc {q : Nat} {c : Int} {x y : Int32} (e : x + Int32.ofInt c = y) (hd : decode (sm_cc 1000) pc = .ok (.iinc q c, 3)) (hl : q < sm_ml 1000) (hg : sm_get lv q = some (.int x)) (h : LB L xs (pc + 3) (sm_p1 lv q (.int y)) st S) : LB L xs pc lv st S := by
  subst e
  exact LB.of (fun _ _ => sx_iinc hd hl hg) h
theorem LB.sw {d lo hi : Int} {offs : Array Int} {m t : Nat} {x : Int32} (hd : decode (sm_cc 1000) pc = .ok (.tableswitch d lo hi offs, m)) (ht : sm_br (.tableswitch d lo hi offs) m pc (.int x :: st) = some (t, st)) (h : LB L xs t lv st S) : LB L xs pc lv (.int x :: st) S := LB.of (fun _ _ => sx_sw hd ht) h
theorem LB.virt {q k1 kd j1 a c : Nat} {w : Nat × Nat} {x : Option Value} {as : List Value} (hd : decode (sm_cc 1000) pc = .ok (.invokevirtual q, 3)) (hk : sm_at mt_k (sm_ow 1000) q = some (k1, kd, j1, w)) (hn : (kd = 0 ∨ kd = 1) ∧ c = sm_ow j1 ∧ c < mt_cl.length) (ha : st.drop (sm_np j1) = .ref a :: r) (has : .ref a :: (st.take (sm_np j1)).reverse = as) (hc : sx_ob (mk S) a = some c) (hr : (r.map fun v => v.category).sum ≤ 8) (hA : Ans 800 j1 as S x S1) (h : LB L xs (pc + 3) lv (x.toList ++ r) S1) : LB L xs pc lv st S := by
  obtain ⟨σ1, u1, k, h, hb⟩ := h
  obtain ⟨k1, hA⟩ := hA
  refine ⟨σ1, u1, k + k1 + 1, fun n m hn1 hm => ?_, hb⟩
  obtain ⟨n1, rfl⟩ : ∃ n1, n = n1 + 1 := ⟨n - 1, by omega⟩
  refine (sx_virt hd hk hn ha hc hr (v := x) (σ2 := mk S1) (u2 := mu S1) ?_).trans (h n1 m (by omega) (by omega))
  rw [has]
  exact sm_ev_none 800 800 m m j1 _ _ _ _ (Nat.le_refl _) (Nat.le_refl _) (hA m (by omega))
theorem LB.one (hd : decode (sm_cc 1000) pc = .ok (.ireturn, 1)) (hl : (mk S).length ≤ 600000) (hu : mu S ≤ 7302250) : LB L xs pc lv [.int 1] S := ⟨mk S, mu S, 1, fun n m hn hm => by
  obtain ⟨n1, rfl⟩ : ∃ n1, n = n1 + 1 := ⟨n - 1, by omega⟩
  exact sx_ret_bool hd (by decide +kernel) (Or.inr rfl), hl, hu⟩
theorem kc_6 : Int32.ofInt 6 = nI 6 := by decide
theorem sb_m_61 : sb_m = 61 := by decide +kernel
theorem sb_S0_mu : mu sb_S0 = sb_u2 := by simp only [mu, sb_S0]
/-- the law's locals -/
def lw_lv (x : Int32) : sm_L := [(3, .int x), (2, .ref 61), (1, .ref 0), (0, .retAddr 100000)]
/-- a call of both, the same answer, the invariant behind it -/
def c_St (Inv : Nat → cS → Prop) (k : Nat) (S : cS) (j1 j2 : Nat) (as : List Value) : Prop := ∃ (v : Int32) (S1 S2 : cS), Ans 800 j1 (.ref 0 :: as) S (some (.int v)) S1 ∧ Ans 800 j2 (.ref 61 :: as) S1 (some (.int v)) S2 ∧ Inv (k + 1) S2
def c_Sl (Inv : Nat → cS → Prop) (k : Nat) (S : cS) (j1 j2 : Nat) (as : List Value) : Prop := ∃ (v : Int64) (S1 S2 : cS), Ans 800 j1 (.ref 0 :: as) S (some (.long v)) S1 ∧ Ans 800 j2 (.ref 61 :: as) S1 (some (.long v)) S2 ∧ Inv (k + 1) S2
theorem lw_feed {L i k : Nat} {xs : Nat → Int32} {S : cS} {Inv : Nat → cS → Prop} (hi : i + 6 ≤ L) (hL : L ≤ 3072) (hc : c_St Inv k S 27 282 [.int (xs (i + 1)), .int (xs (i + 2)), .int (xs (i + 3)), .int (xs (i + 4)), .int (xs (i + 5))]) (hn : ∀ S2, Inv (k + 1) S2 → LB L xs 18 (lw_lv (nI (i + 6))) [] S2) : LB L xs 80 (lw_lv (nI i)) [] S := by
  obtain ⟨v, S1, S2, h1, h2, h⟩ := hc
  refine LB.go dc_1000_80 rfl ?_
  refine LB.go dc_1000_81 rfl ?_
  refine LB.go dc_1000_82 rfl ?_
  refine LB.go dc_1000_83 rfl ?_
  refine LB.go dc_1000_84 rfl ?_
  refine LB.xget (i + 1) (by rw [kc_1, nI_add]) (by omega) (by omega) dc_1000_85 ?_
  refine LB.go dc_1000_86 rfl ?_
  refine LB.go dc_1000_87 rfl ?_
  refine LB.go dc_1000_88 rfl ?_
  refine LB.go dc_1000_89 rfl ?_
  refine LB.xget (i + 2) (by rw [kc_2, nI_add]) (by omega) (by omega) dc_1000_90 ?_
  refine LB.go dc_1000_91 rfl ?_
  refine LB.go dc_1000_92 rfl ?_
  refine LB.go dc_1000_93 rfl ?_
  refine LB.go dc_1000_94 rfl ?_
  refine LB.xget (i + 3) (by rw [kc_3, nI_add]) (by omega) (by omega) dc_1000_95 ?_
  refine LB.go dc_1000_96 rfl ?_
  refine LB.go dc_1000_97 rfl ?_
  refine LB.go dc_1000_98 rfl ?_
  refine LB.go dc_1000_99 rfl ?_
  refine LB.xget (i + 4) (by rw [kc_4, nI_add]) (by omega) (by omega) dc_1000_100 ?_
  refine LB.go dc_1000_101 rfl ?_
  refine LB.go dc_1000_102 rfl ?_
  refine LB.go dc_1000_103 rfl ?_
  refine LB.go dc_1000_104 rfl ?_
  refine LB.xget (i + 5) (by rw [kc_5, nI_add]) (by omega) (by omega) dc_1000_105 ?_
  refine LB.virt (r := []) dc_1000_106 kr_1000_13 ⟨Or.inl rfl, ow_27, cl_11⟩ (by rw [np_27]; rfl) (by rw [np_27]; rfl) (ob_of (mk_0 _)) (Nat.le_of_ble_eq_true rfl) h1 ?_
  show LB _ _ _ _ [_] _
  refine LB.go dc_1000_109 rfl ?_
  refine LB.go dc_1000_110 rfl ?_
  refine LB.go dc_1000_111 rfl ?_
  refine LB.go dc_1000_112 rfl ?_
  refine LB.go dc_1000_113 rfl ?_
  refine LB.xget (i + 1) (by rw [kc_1, nI_add]) (by omega) (by omega) dc_1000_114 ?_
  refine LB.go dc_1000_115 rfl ?_
  refine LB.go dc_1000_116 rfl ?_
  refine LB.go dc_1000_117 rfl ?_
  refine LB.go dc_1000_118 rfl ?_
  refine LB.xget (i + 2) (by rw [kc_2, nI_add]) (by omega) (by omega) dc_1000_119 ?_
  refine LB.go dc_1000_120 rfl ?_
  refine LB.go dc_1000_121 rfl ?_
  refine LB.go dc_1000_122 rfl ?_
  refine LB.go dc_1000_123 rfl ?_
  refine LB.xget (i + 3) (by rw [kc_3, nI_add]) (by omega) (by omega) dc_1000_124 ?_
  refine LB.go dc_1000_125 rfl ?_
  refine LB.go dc_1000_126 rfl ?_
  refine LB.go dc_1000_127 rfl ?_
  refine LB.go dc_1000_128 rfl ?_
  refine LB.xget (i + 4) (by rw [kc_4, nI_add]) (by omega) (by omega) dc_1000_129 ?_
  refine LB.go dc_1000_130 rfl ?_
  refine LB.go dc_1000_131 rfl ?_
  refine LB.go dc_1000_132 rfl ?_
  refine LB.go dc_1000_133 rfl ?_
  refine LB.xget (i + 5) (by rw [kc_5, nI_add]) (by omega) (by omega) dc_1000_134 ?_
  refine LB.virt (r := [_]) dc_1000_135 kr_1000_17 ⟨Or.inl rfl, ow_282, cl_14⟩ (by rw [np_282]; rfl) (by rw [np_282]; rfl) (ob_of (mk_61 _)) (Nat.le_of_ble_eq_true rfl) h2 ?_
  show LB _ _ _ _ [_, _] _
  refine LB.icT dc_1000_138 rfl (k2_eq_T rfl) ?_
  refine LB.inc (y := nI (i + 6)) (by rw [kc_6, nI_add]) dc_1000_315 (by rw [ml_law]; exact Nat.le_of_ble_eq_true rfl) rfl ?_
  refine LB.go dc_1000_318 rfl ?_
  exact hn S2 h
theorem lw_end {L i k : Nat} {xs : Nat → Int32} {S : cS} {Inv : Nat → cS → Prop} (hi : i + 6 ≤ L) (hL : L ≤ 3072) (hc : c_St Inv k S 29 283 [.int (xs (i + 1))]) (hn : ∀ S2, Inv (k + 1) S2 → LB L xs 18 (lw_lv (nI (i + 6))) [] S2) : LB L xs 143 (lw_lv (nI i)) [] S := by
  obtain ⟨v, S1, S2, h1, h2, h⟩ := hc
  refine LB.go dc_1000_143 rfl ?_
  refine LB.go dc_1000_144 rfl ?_
  refine LB.go dc_1000_145 rfl ?_
  refine LB.go dc_1000_146 rfl ?_
  refine LB.go dc_1000_147 rfl ?_
  refine LB.xget (i + 1) (by rw [kc_1, nI_add]) (by omega) (by omega) dc_1000_148 ?_
  refine LB.virt (r := []) dc_1000_149 kr_1000_18 ⟨Or.inl rfl, ow_29, cl_11⟩ (by rw [np_29]; rfl) (by rw [np_29]; rfl) (ob_of (mk_0 _)) (Nat.le_of_ble_eq_true rfl) h1 ?_
  show LB _ _ _ _ [_] _
  refine LB.go dc_1000_152 rfl ?_
  refine LB.go dc_1000_153 rfl ?_
  refine LB.go dc_1000_154 rfl ?_
  refine LB.go dc_1000_155 rfl ?_
  refine LB.go dc_1000_156 rfl ?_
  refine LB.xget (i + 1) (by rw [kc_1, nI_add]) (by omega) (by omega) dc_1000_157 ?_
  refine LB.virt (r := [_]) dc_1000_158 kr_1000_22 ⟨Or.inl rfl, ow_283, cl_14⟩ (by rw [np_283]; rfl) (by rw [np_283]; rfl) (ob_of (mk_61 _)) (Nat.le_of_ble_eq_true rfl) h2 ?_
  show LB _ _ _ _ [_, _] _
  refine LB.icT dc_1000_161 rfl (k2_eq_T rfl) ?_
  refine LB.inc (y := nI (i + 6)) (by rw [kc_6, nI_add]) dc_1000_315 (by rw [ml_law]; exact Nat.le_of_ble_eq_true rfl) rfl ?_
  refine LB.go dc_1000_318 rfl ?_
  exact hn S2 h
theorem lw_run {L i k : Nat} {xs : Nat → Int32} {S : cS} {Inv : Nat → cS → Prop} (hi : i + 6 ≤ L) (hL : L ≤ 3072) (hc : c_St Inv k S 30 285 [.int (xs (i + 1))]) (hn : ∀ S2, Inv (k + 1) S2 → LB L xs 18 (lw_lv (nI (i + 6))) [] S2) : LB L xs 166 (lw_lv (nI i)) [] S := by
  obtain ⟨v, S1, S2, h1, h2, h⟩ := hc
  refine LB.go dc_1000_166 rfl ?_
  refine LB.go dc_1000_167 rfl ?_
  refine LB.go dc_1000_168 rfl ?_
  refine LB.go dc_1000_169 rfl ?_
  refine LB.go dc_1000_170 rfl ?_
  refine LB.xget (i + 1) (by rw [kc_1, nI_add]) (by omega) (by omega) dc_1000_171 ?_
  refine LB.virt (r := []) dc_1000_172 kr_1000_23 ⟨Or.inl rfl, ow_30, cl_11⟩ (by rw [np_30]; rfl) (by rw [np_30]; rfl) (ob_of (mk_0 _)) (Nat.le_of_ble_eq_true rfl) h1 ?_
  show LB _ _ _ _ [_] _
  refine LB.go dc_1000_175 rfl ?_
  refine LB.go dc_1000_176 rfl ?_
  refine LB.go dc_1000_177 rfl ?_
  refine LB.go dc_1000_178 rfl ?_
  refine LB.go dc_1000_179 rfl ?_
  refine LB.xget (i + 1) (by rw [kc_1, nI_add]) (by omega) (by omega) dc_1000_180 ?_
  refine LB.virt (r := [_]) dc_1000_181 kr_1000_26 ⟨Or.inl rfl, ow_285, cl_14⟩ (by rw [np_285]; rfl) (by rw [np_285]; rfl) (ob_of (mk_61 _)) (Nat.le_of_ble_eq_true rfl) h2 ?_
  show LB _ _ _ _ [_, _] _
  refine LB.icT dc_1000_184 rfl (k2_eq_T rfl) ?_
  refine LB.inc (y := nI (i + 6)) (by rw [kc_6, nI_add]) dc_1000_315 (by rw [ml_law]; exact Nat.le_of_ble_eq_true rfl) rfl ?_
  refine LB.go dc_1000_318 rfl ?_
  exact hn S2 h
theorem lw_line {L i k : Nat} {xs : Nat → Int32} {S : cS} {Inv : Nat → cS → Prop} (hi : i + 6 ≤ L) (hL : L ≤ 3072) (hc : c_St Inv k S 269 421 []) (hn : ∀ S2, Inv (k + 1) S2 → LB L xs 18 (lw_lv (nI (i + 6))) [] S2) : LB L xs 189 (lw_lv (nI i)) [] S := by
  obtain ⟨v, S1, S2, h1, h2, h⟩ := hc
  refine LB.go dc_1000_189 rfl ?_
  refine LB.virt (r := []) dc_1000_190 kr_1000_27 ⟨Or.inl rfl, ow_269, cl_11⟩ (by rw [np_269]; rfl) (by rw [np_269]; rfl) (ob_of (mk_0 _)) (Nat.le_of_ble_eq_true rfl) h1 ?_
  show LB _ _ _ _ [_] _
  refine LB.go dc_1000_193 rfl ?_
  refine LB.virt (r := [_]) dc_1000_194 kr_1000_31 ⟨Or.inl rfl, ow_421, cl_14⟩ (by rw [np_421]; rfl) (by rw [np_421]; rfl) (ob_of (mk_61 _)) (Nat.le_of_ble_eq_true rfl) h2 ?_
  show LB _ _ _ _ [_, _] _
  refine LB.icT dc_1000_197 rfl (k2_eq_T rfl) ?_
  refine LB.inc (y := nI (i + 6)) (by rw [kc_6, nI_add]) dc_1000_315 (by rw [ml_law]; exact Nat.le_of_ble_eq_true rfl) rfl ?_
  refine LB.go dc_1000_318 rfl ?_
  exact hn S2 h
theorem lw_octet {L i k : Nat} {xs : Nat → Int32} {S : cS} {Inv : Nat → cS → Prop} (hi : i + 6 ≤ L) (hL : L ≤ 3072) (hc : c_St Inv k S 270 422 [.int (xs (i + 1))]) (hn : ∀ S2, Inv (k + 1) S2 → LB L xs 18 (lw_lv (nI (i + 6))) [] S2) : LB L xs 202 (lw_lv (nI i)) [] S := by
  obtain ⟨v, S1, S2, h1, h2, h⟩ := hc
  refine LB.go dc_1000_202 rfl ?_
  refine LB.go dc_1000_203 rfl ?_
  refine LB.go dc_1000_204 rfl ?_
  refine LB.go dc_1000_205 rfl ?_
  refine LB.go dc_1000_206 rfl ?_
  refine LB.xget (i + 1) (by rw [kc_1, nI_add]) (by omega) (by omega) dc_1000_207 ?_
  refine LB.virt (r := []) dc_1000_208 kr_1000_32 ⟨Or.inl rfl, ow_270, cl_11⟩ (by rw [np_270]; rfl) (by rw [np_270]; rfl) (ob_of (mk_0 _)) (Nat.le_of_ble_eq_true rfl) h1 ?_
  show LB _ _ _ _ [_] _
  refine LB.go dc_1000_211 rfl ?_
  refine LB.go dc_1000_212 rfl ?_
  refine LB.go dc_1000_213 rfl ?_
  refine LB.go dc_1000_214 rfl ?_
  refine LB.go dc_1000_215 rfl ?_
  refine LB.xget (i + 1) (by rw [kc_1, nI_add]) (by omega) (by omega) dc_1000_216 ?_
  refine LB.virt (r := [_]) dc_1000_217 kr_1000_35 ⟨Or.inl rfl, ow_422, cl_14⟩ (by rw [np_422]; rfl) (by rw [np_422]; rfl) (ob_of (mk_61 _)) (Nat.le_of_ble_eq_true rfl) h2 ?_
  show LB _ _ _ _ [_, _] _
  refine LB.icT dc_1000_220 rfl (k2_eq_T rfl) ?_
  refine LB.inc (y := nI (i + 6)) (by rw [kc_6, nI_add]) dc_1000_315 (by rw [ml_law]; exact Nat.le_of_ble_eq_true rfl) rfl ?_
  refine LB.go dc_1000_318 rfl ?_
  exact hn S2 h
theorem lw_count {L i k : Nat} {xs : Nat → Int32} {S : cS} {Inv : Nat → cS → Prop} (hi : i + 6 ≤ L) (hL : L ≤ 3072) (hc : c_St Inv k S 273 423 [.int (xs (i + 1))]) (hn : ∀ S2, Inv (k + 1) S2 → LB L xs 18 (lw_lv (nI (i + 6))) [] S2) : LB L xs 225 (lw_lv (nI i)) [] S := by
  obtain ⟨v, S1, S2, h1, h2, h⟩ := hc
  refine LB.go dc_1000_225 rfl ?_
  refine LB.go dc_1000_226 rfl ?_
  refine LB.go dc_1000_227 rfl ?_
  refine LB.go dc_1000_228 rfl ?_
  refine LB.go dc_1000_229 rfl ?_
  refine LB.xget (i + 1) (by rw [kc_1, nI_add]) (by omega) (by omega) dc_1000_230 ?_
  refine LB.virt (r := []) dc_1000_231 kr_1000_36 ⟨Or.inl rfl, ow_273, cl_11⟩ (by rw [np_273]; rfl) (by rw [np_273]; rfl) (ob_of (mk_0 _)) (Nat.le_of_ble_eq_true rfl) h1 ?_
  show LB _ _ _ _ [_] _
  refine LB.go dc_1000_234 rfl ?_
  refine LB.go dc_1000_235 rfl ?_
  refine LB.go dc_1000_236 rfl ?_
  refine LB.go dc_1000_237 rfl ?_
  refine LB.go dc_1000_238 rfl ?_
  refine LB.xget (i + 1) (by rw [kc_1, nI_add]) (by omega) (by omega) dc_1000_239 ?_
  refine LB.virt (r := [_]) dc_1000_240 kr_1000_39 ⟨Or.inl rfl, ow_423, cl_14⟩ (by rw [np_423]; rfl) (by rw [np_423]; rfl) (ob_of (mk_61 _)) (Nat.le_of_ble_eq_true rfl) h2 ?_
  show LB _ _ _ _ [_, _] _
  refine LB.icT dc_1000_243 rfl (k2_eq_T rfl) ?_
  refine LB.inc (y := nI (i + 6)) (by rw [kc_6, nI_add]) dc_1000_315 (by rw [ml_law]; exact Nat.le_of_ble_eq_true rfl) rfl ?_
  refine LB.go dc_1000_318 rfl ?_
  exact hn S2 h
theorem lw_bind {L i k : Nat} {xs : Nat → Int32} {S : cS} {Inv : Nat → cS → Prop} (hi : i + 6 ≤ L) (hL : L ≤ 3072) (hc : c_St Inv k S 277 424 [.long (((xs (i + 1)).toInt64 <<< ((Int8.ofInt 32).toInt32.toInt64 &&& 63)) ||| ((xs (i + 2)).toInt64 &&& 4294967295))]) (hn : ∀ S2, Inv (k + 1) S2 → LB L xs 18 (lw_lv (nI (i + 6))) [] S2) : LB L xs 248 (lw_lv (nI i)) [] S := by
  obtain ⟨v, S1, S2, h1, h2, h⟩ := hc
  refine LB.go dc_1000_248 rfl ?_
  refine LB.go dc_1000_249 rfl ?_
  refine LB.go dc_1000_250 rfl ?_
  refine LB.go dc_1000_251 rfl ?_
  refine LB.go dc_1000_252 rfl ?_
  refine LB.xget (i + 1) (by rw [kc_1, nI_add]) (by omega) (by omega) dc_1000_253 ?_
  refine LB.go dc_1000_254 rfl ?_
  refine LB.go dc_1000_255 rfl ?_
  refine LB.go dc_1000_257 rfl ?_
  refine LB.go dc_1000_258 rfl ?_
  refine LB.go dc_1000_259 rfl ?_
  refine LB.go dc_1000_260 rfl ?_
  refine LB.go dc_1000_261 rfl ?_
  refine LB.xget (i + 2) (by rw [kc_2, nI_add]) (by omega) (by omega) dc_1000_262 ?_
  refine LB.go dc_1000_263 rfl ?_
  refine LB.of (fun _ _ => sx_ldc2 dc_1000_264 cj_1000_40) ?_
  refine LB.go dc_1000_267 rfl ?_
  refine LB.go dc_1000_268 rfl ?_
  refine LB.virt (r := []) dc_1000_269 kr_1000_42 ⟨Or.inl rfl, ow_277, cl_11⟩ (by rw [np_277]; rfl) (by rw [np_277]; rfl) (ob_of (mk_0 _)) (Nat.le_of_ble_eq_true rfl) h1 ?_
  show LB _ _ _ _ [_] _
  refine LB.go dc_1000_272 rfl ?_
  refine LB.go dc_1000_273 rfl ?_
  refine LB.go dc_1000_274 rfl ?_
  refine LB.go dc_1000_275 rfl ?_
  refine LB.go dc_1000_276 rfl ?_
  refine LB.xget (i + 1) (by rw [kc_1, nI_add]) (by omega) (by omega) dc_1000_277 ?_
  refine LB.go dc_1000_278 rfl ?_
  refine LB.go dc_1000_279 rfl ?_
  refine LB.go dc_1000_281 rfl ?_
  refine LB.go dc_1000_282 rfl ?_
  refine LB.go dc_1000_283 rfl ?_
  refine LB.go dc_1000_284 rfl ?_
  refine LB.go dc_1000_285 rfl ?_
  refine LB.xget (i + 2) (by rw [kc_2, nI_add]) (by omega) (by omega) dc_1000_286 ?_
  refine LB.go dc_1000_287 rfl ?_
  refine LB.of (fun _ _ => sx_ldc2 dc_1000_288 cj_1000_40) ?_
  refine LB.go dc_1000_291 rfl ?_
  refine LB.go dc_1000_292 rfl ?_
  refine LB.virt (r := [_]) dc_1000_293 kr_1000_46 ⟨Or.inl rfl, ow_424, cl_14⟩ (by rw [np_424]; rfl) (by rw [np_424]; rfl) (ob_of (mk_61 _)) (Nat.le_of_ble_eq_true rfl) h2 ?_
  show LB _ _ _ _ [_, _] _
  refine LB.icT dc_1000_296 rfl (k2_eq_T rfl) ?_
  refine LB.inc (y := nI (i + 6)) (by rw [kc_6, nI_add]) dc_1000_315 (by rw [ml_law]; exact Nat.le_of_ble_eq_true rfl) rfl ?_
  refine LB.go dc_1000_318 rfl ?_
  exact hn S2 h
theorem lw_value {L i k : Nat} {xs : Nat → Int32} {S : cS} {Inv : Nat → cS → Prop} (hi : i + 6 ≤ L) (hL : L ≤ 3072) (hc : c_Sl Inv k S 280 426 []) (hn : ∀ S2, Inv (k + 1) S2 → LB L xs 18 (lw_lv (nI (i + 6))) [] S2) : LB L xs 301 (lw_lv (nI i)) [] S := by
  obtain ⟨v, S1, S2, h1, h2, h⟩ := hc
  refine LB.go dc_1000_301 rfl ?_
  refine LB.virt (r := []) dc_1000_302 kr_1000_47 ⟨Or.inl rfl, ow_280, cl_11⟩ (by rw [np_280]; rfl) (by rw [np_280]; rfl) (ob_of (mk_0 _)) (Nat.le_of_ble_eq_true rfl) h1 ?_
  show LB _ _ _ _ [_] _
  refine LB.go dc_1000_305 rfl ?_
  refine LB.virt (r := [_]) dc_1000_306 kr_1000_51 ⟨Or.inl rfl, ow_426, cl_14⟩ (by rw [np_426]; rfl) (by rw [np_426]; rfl) (ob_of (mk_61 _)) (Nat.le_of_ble_eq_true rfl) h2 ?_
  show LB _ _ _ _ [_, _] _
  refine LB.go dc_1000_309 rfl ?_
  refine LB.ifT dc_1000_310 rfl (k1_eq_T (cmp_eq rfl)) ?_
  refine LB.inc (y := nI (i + 6)) (by rw [kc_6, nI_add]) dc_1000_315 (by rw [ml_law]; exact Nat.le_of_ble_eq_true rfl) rfl ?_
  refine LB.go dc_1000_318 rfl ?_
  exact hn S2 h
theorem lw_out {L i : Nat} {xs : Nat → Int32} {S : cS} (hL : L ≤ 3072) (hi : i < 2 ^ 20) (h : L < i + 6) (hl : (mk S).length ≤ 600000) (hu : mu S ≤ 7302250) : LB L xs 18 (lw_lv (nI i)) [] S := by
  have hx : sm_c2 .gt (nI i) (Int32.ofNat L - (Int8.ofInt 6).toInt32) true false = true := by
    refine if_pos (Int32.lt_iff_toInt_lt.mpr ?_)
    rw [nI_toInt (by omega)]
    by_cases h6 : 6 ≤ L
    · rw [show (Int8.ofInt 6).toInt32 = nI 6 by decide, show Int32.ofNat L = nI L from rfl, pk_sub h6, nI_toInt (by omega)]
      omega
    · have h3 : L = 0 ∨ L = 1 ∨ L = 2 ∨ L = 3 ∨ L = 4 ∨ L = 5 := by omega
      have h4 : (Int32.ofNat L - (Int8.ofInt 6).toInt32).toInt < 0 := by
        rcases h3 with rfl | rfl | rfl | rfl | rfl | rfl <;> decide
      omega
  refine LB.go dc_1000_18 rfl ?_
  refine LB.go dc_1000_19 rfl ?_
  refine LB.xlen dc_1000_20 ?_
  refine LB.go dc_1000_21 rfl ?_
  refine LB.go dc_1000_23 rfl ?_
  refine LB.icT dc_1000_24 rfl hx ?_
  refine LB.go dc_1000_321 rfl ?_
  exact LB.one dc_1000_322 hl hu
theorem lw_in {L i t : Nat} {x : Int32} {xs : Nat → Int32} {S : cS} (hL : L ≤ 3072) (hi : i + 6 ≤ L) (hx : xs i &&& 7 = x) (ht : sm_br (.tableswitch 282 0 7 #[47, 110, 133, 156, 169, 192, 215, 268]) 47 33 [.int x] = some (t, [])) (h : LB L xs t (lw_lv (nI i)) [] S) : LB L xs 18 (lw_lv (nI i)) [] S := by
  have hc : sm_c2 .gt (nI i) (Int32.ofNat L - (Int8.ofInt 6).toInt32) true false = false := by
    refine if_neg (fun h1 => ?_)
    have h2 := Int32.lt_iff_toInt_lt.mp h1
    rw [nI_toInt (by omega), show (Int8.ofInt 6).toInt32 = nI 6 by decide, show Int32.ofNat L = nI L from rfl, pk_sub (by omega), nI_toInt (by omega)] at h2
    omega
  refine LB.go dc_1000_18 rfl ?_
  refine LB.go dc_1000_19 rfl ?_
  refine LB.xlen dc_1000_20 ?_
  refine LB.go dc_1000_21 rfl ?_
  refine LB.go dc_1000_23 rfl ?_
  refine LB.icF dc_1000_24 rfl hc ?_
  refine LB.go dc_1000_27 rfl ?_
  refine LB.go dc_1000_28 rfl ?_
  refine LB.xget i rfl (by omega) (by omega) dc_1000_29 ?_
  refine LB.go dc_1000_30 rfl ?_
  refine LB.go dc_1000_32 rfl ?_
  have e : xs i &&& (Int8.ofInt 7).toInt32 = x := hx
  rw [e]
  exact LB.sw dc_1000_33 ht h
/-- THE CLAIM out of the eight calls: an invariant that the start has, that keeps within the room, and that every call of both sides keeps while it answers alike -/
theorem whole_of (Inv : Nat → cS → Prop) (h0 : Inv 0 sb_S0) (hbd : ∀ k S, Inv k S → (mk S).length ≤ 600000 ∧ mu S ≤ 7302250) (hF : ∀ (k : Nat) (S : cS) (a b c d e : Int32), k < 512 → Inv k S → c_St Inv k S 27 282 [.int a, .int b, .int c, .int d, .int e]) (hE : ∀ (k : Nat) (S : cS) (a : Int32), k < 512 → Inv k S → c_St Inv k S 29 283 [.int a]) (hR : ∀ (k : Nat) (S : cS) (a : Int32), k < 512 → Inv k S → c_St Inv k S 30 285 [.int a]) (hLn : ∀ (k : Nat) (S : cS), k < 512 → Inv k S → c_St Inv k S 269 421 []) (hO : ∀ (k : Nat) (S : cS) (a : Int32), k < 512 → Inv k S → c_St Inv k S 270 422 [.int a]) (hC : ∀ (k : Nat) (S : cS) (a : Int32), k < 512 → Inv k S → c_St Inv k S 273 423 [.int a]) (hB : ∀ (k : Nat) (S : cS) (v : Int64), k < 512 → Inv k S → c_St Inv k S 277 424 [.long v]) (hV : ∀ (k : Nat) (S : cS), k < 512 → Inv k S → c_Sl Inv k S 280 426 []) (L : Nat) (xs : Nat → Int32) (hL : L ≤ 3072) : ∃ (d n : Nat) (σ1 : sm_H) (u1 : Nat), d + 1 ≤ 2048 ∧ 100 * (d + 1) ≤ 84000 ∧ σ1.length ≤ 600000 ∧ u1 ≤ 7302250 ∧ sm_run (some (L, xs)) (sm_ev (some (L, xs)) d n) 1000 n (0, [(0, .retAddr 100000)], [], [], 0) = some (some (.int 1), σ1, u1) := by
  have loop : ∀ r k S, L ≤ 6 * k + 6 * r + 5 → k ≤ 512 → Inv k S → LB L xs 18 (lw_lv (nI (6 * k))) [] S := by
    intro r
    induction r with
    | zero =>
      intro k S h1 h2 hI
      exact lw_out hL (by omega) (by omega) (hbd k S hI).1 (hbd k S hI).2
    | succ r ihr =>
      intro k S h1 h2 hI
      by_cases hc : 6 * k + 6 ≤ L
      · have hk2 : k < 512 := by omega
        have ih : ∀ k1 S2, k1 = k + 1 → Inv k1 S2 → LB L xs 18 (lw_lv (nI (6 * k1))) [] S2 := fun k1 S2 e h => ihr k1 S2 (by omega) (by omega) h
        have key : ∀ (x : Int32) (t : Nat), xs (6 * k) &&& 7 = x → sm_br (.tableswitch 282 0 7 #[47, 110, 133, 156, 169, 192, 215, 268]) 47 33 [.int x] = some (t, []) → LB L xs t (lw_lv (nI (6 * k))) [] S → LB L xs 18 (lw_lv (nI (6 * k))) [] S := fun x t hx ht h => lw_in hL hc hx ht h
        rcases sl_and7 (xs (6 * k)) with h | h | h | h | h | h | h | h
        · exact key 0 80 h (by decide) (lw_feed (k := k) (by omega) hL (hF k S _ _ _ _ _ hk2 hI) (fun S2 h2 => by rw [show 6 * k + 6 = 6 * (k + 1) by omega]; exact ih (k + 1) S2 rfl h2))
        · exact key 1 143 h (by decide) (lw_end (k := k) (by omega) hL (hE k S _ hk2 hI) (fun S2 h2 => by rw [show 6 * k + 6 = 6 * (k + 1) by omega]; exact ih (k + 1) S2 rfl h2))
        · exact key 2 166 h (by decide) (lw_run (k := k) (by omega) hL (hR k S _ hk2 hI) (fun S2 h2 => by rw [show 6 * k + 6 = 6 * (k + 1) by omega]; exact ih (k + 1) S2 rfl h2))
        · exact key 3 189 h (by decide) (lw_line (k := k) (by omega) hL (hLn k S hk2 hI) (fun S2 h2 => by rw [show 6 * k + 6 = 6 * (k + 1) by omega]; exact ih (k + 1) S2 rfl h2))
        · exact key 4 202 h (by decide) (lw_octet (k := k) (by omega) hL (hO k S _ hk2 hI) (fun S2 h2 => by rw [show 6 * k + 6 = 6 * (k + 1) by omega]; exact ih (k + 1) S2 rfl h2))
        · exact key 5 225 h (by decide) (lw_count (k := k) (by omega) hL (hC k S _ hk2 hI) (fun S2 h2 => by rw [show 6 * k + 6 = 6 * (k + 1) by omega]; exact ih (k + 1) S2 rfl h2))
        · exact key 6 248 h (by decide) (lw_bind (k := k) (by omega) hL (hB k S _ hk2 hI) (fun S2 h2 => by rw [show 6 * k + 6 = 6 * (k + 1) by omega]; exact ih (k + 1) S2 rfl h2))
        · exact key 7 301 h (by decide) (lw_value (k := k) (by omega) hL (hV k S hk2 hI) (fun S2 h2 => by rw [show 6 * k + 6 = 6 * (k + 1) by omega]; exact ih (k + 1) S2 rfl h2))
      · exact lw_out hL (by omega) (by omega) (hbd k S hI).1 (hbd k S hI).2
  obtain ⟨σ1, u1, k, h, hl, hu⟩ := loop 512 0 sb_S0 (by omega) (by omega) h0
  refine ⟨800, k + 200010, σ1, u1, by decide, by decide, hl, hu, ?_⟩
  have c1 : sm_ev (some (L, xs)) 800 (k + 200010) 0 [.ref 0] ([] ++ [.inr (11, sm_new 11)]) (0 + (sm_T 11).2.2) = some (none, sb_h1, sb_u1) := sm_ev_none 30 800 200000 (k + 200010) 0 _ _ _ _ (by decide) (by omega) sb_new
  have c2 : sm_ev (some (L, xs)) 800 (k + 200010) 281 [.ref sb_m] (sb_h1 ++ [.inr (14, sm_new 14)]) (sb_u1 + (sm_T 14).2.2) = some (none, sb_h2, sb_u2) := sm_ev_none 30 800 200000 (k + 200010) 281 _ _ _ _ (by decide) (by omega) (sf_ev_ok _ _ _ _ _ _ _ sb_e2)
  refine (sx_new dc_1000_0 nr_1000_7).trans ?_
  refine (sx_go dc_1000_3 rfl).trans ?_
  refine (sx_spec (r := [.ref 0]) (a := 0) dc_1000_4 kr_1000_9 (Or.inl rfl) (by rw [np_0]; rfl) (by decide) (by rw [np_0]; exact c1)).trans ?_
  refine (sx_astore_n dc_1000_7 (by rw [ml_law]; decide)).trans ?_
  refine (sx_new dc_1000_8 nr_1000_10).trans ?_
  refine (sx_go dc_1000_11 rfl).trans ?_
  refine (sx_spec (r := [.ref sb_m]) (a := sb_m) dc_1000_12 kr_1000_12 (Or.inl rfl) (by rw [np_281]; rfl) (by decide) (by rw [np_281]; exact c2)).trans ?_
  refine (sx_astore_n dc_1000_15 (by rw [ml_law]; decide)).trans ?_
  refine (sx_go dc_1000_16 rfl).trans ?_
  refine (sx_istore_n dc_1000_17 (by rw [ml_law]; decide)).trans ?_
  rw [sb_m_61, sb_S0_mk, ← sb_S0_mu]
  show sm_run _ _ 1000 (k + 200000) (18, lw_lv (nI (6 * 0)), [], mk sb_S0, mu sb_S0) = _
  exact h (k + 200000) (k + 200010) (by omega) (by omega)
