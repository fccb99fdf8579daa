/-! DEEDS ON BOTH SIDES: an attribute is read: op 44 -/
section
variable {P : Nat → Prop} {T : cS} {gT : Nat} {Q : Nat → Prop} {β β' : Nat → Nat} {F : Nat → Nat → Nat → Prop} {loc par : Nat → Nat → Nat} {ty : Nat → Nat × Nat} {G : Nat → Nat → Nat → Nat × Nat × LL → Prop} {D D' K : List Nat} {z nn g0 g1 g3 g4 g5 gn d d' dr v o i k k0 c e n nt m t tp tt r0 ob_ vb q rr y u s idx : Nat} {tq : Nat → Nat × Nat} {C r : List Lv} {x : Lv} {S S' S1 X W Sc Sr : cS} {f g : Nat → Nat} {hi lo kh kl a b ka kb : Int64} {kd : Int32}
theorem att_R (h : CI F loc par ty G tq (x :: r) S) (hl : lob (vL x) + 1 ≤ vH x) (hex : exX F tq (x :: r) S) (hF : F q 0 rr) : opR F loc par ty G tq (d + 14) 218 [.ref 53, .int (nI q), .int (nI 1)] 412 [.ref 61, .int (nI rr)] x r (vH x - 1 + 1, vU x, vL x) S := by
  have m218 := ml_218
  have m412 := ml_412
  obtain ⟨l1, l2, l3, l4, l5⟩ := CI_len h
  have hT := CI_T h
  have hq4 : q < 4096 := by
    obtain ⟨_, _, _, _, _, _, _, _, _, _, _, _, _, _, _, hX⟩ := hex
    exact (XR_nm (XN_of hX) hF).1
  have goC : ∀ {e : Int32} {S'}, Bod (d + 13) 218 0 [(0, .ref 53), (1, .int (nI q)), (2, .int (nI 1))] [] S (some (.int e)) S' → Ans (d + 14) 218 [.ref 53, .int (nI q), .int (nI 1)] S (some (.int e)) S' := fun hb => Ans.of (by rw [m218]; exact Nat.le_of_ble_eq_true rfl) (Bod.lv (by rfl) hb)
  have goR : ∀ {Sr : cS} {e : Int32} {W : cS}, Bod (d + 13) 412 0 [(0, .ref 61), (1, .int (nI rr))] [] Sr (some (.int e)) W → Ans (d + 14) 412 [.ref 61, .int (nI rr)] Sr (some (.int e)) W := fun hb => Ans.of (by rw [m412]; exact Nat.le_of_ble_eq_true rfl) (Bod.lv (by rfl) hb)
  obtain ⟨o, o1, o2, o3⟩ := mHS_o h.1 (i := topC (x :: r) - 1 - 0) (by omega)
  have qo := object_n (d := d + 10) (b := 0) l3 (by omega) (by omega) o2
  have et : topC (x :: r) - 1 + offC (x :: r) = topC (x :: r) + offC (x :: r) - 1 := by omega
  have hO : ∀ {P T gT Q β D z nn g0 g1 g3 g4 g5 gn Sr}, XR P T gT Q β F D z nn g0 g1 g3 g4 g5 gn tq (x :: r) S Sr → topO β Sr (topC (x :: r) + offC (x :: r)) (sL S 47 (topC (x :: r) - 1 - 0)) (sL S 48 (topC (x :: r) - 1 - 0)) := fun {P T gT Q β D z nn g0 g1 g3 g4 g5 gn Sr} hX => ⟨XR_v hX (i := 0) (by omega), XR_51 hX, by omega, by omega⟩
  rcases att_B (d := d) h hF hq4 o2 o1 o3 (CI_k h (i := 0) (by omega)) with ⟨e, he, hA, hB⟩ | ⟨hh, e, hlh, h45, he, hA, hB⟩ | ⟨hh, e, fn, hlh, he, hlf, hf3, hol, h5, hfn, hA, hB⟩
  · exact opR_err (e := e) h (by omega) (goC (hA 1 (by omega) qo)) (fun P T gT Q β D z nn g0 g1 g3 g4 g5 gn Sr hX => goR (hB (XN_of hX) (hO hX)))
  · have okh := mHS_ok h.1 hh hlh.1 hlh.2.1
    obtain ⟨ov, v1, v2, v3⟩ := ent_o okh (mHS_cl h.1) hlh he
    have q3 : sA S 3 hh ≠ nI 7 := fun c => by
      unfold h_kd at h45
      rw [c] at h45
      exact absurd h45 (by decide)
    have hkv := (h.2.2.2.1 hh hlh).2.1 e he
    refine opR_give (v := 1) (dg := d + 4) h (by omega) (by omega) v2 v1 v3 ⟨hkv.2 q3, hkv.1⟩ (fun S' hg => goC (hA 1 (by omega) qo S' hg)) (fun P T gT Q β D z nn g0 g1 g3 g4 g5 gn Sr hX => ?_)
    obtain ⟨ev, a, b, hv, hb⟩ := hB (XN_of hX) (hO hX)
    obtain ⟨p1, p2, p3, p4, p5⟩ := pshW_s (tp := topC (x :: r) + offC (x :: r) - 1) (kd := nI ev) (xa := a) (xb := b) (S := Sr)
    rw [et]
    exact ⟨_, goR hb, p1, p2, by rw [p3, p4, p5]; exact hv⟩
  · rcases new_L (d := d + 11) (dr := d + 3) (kd := 6) (i := nI 0) (y := fn) (u := o) (by omega) h (Or.inr hlf) (Or.inr hol) with ⟨hf, A⟩ | ⟨_, k, X, W, A, B, _, hN, ⟨w3, w7, w8, w9, w10⟩, hCI, hR⟩
    · refine Or.inr ⟨8, S, by omega, goC ((hA 1 (by omega) qo).1 A), h, CFr.refl S, fun P T gT Q β D z nn g0 g1 g3 g4 g5 gn Sr hX => ?_⟩
      obtain ⟨S1, D', b1, b2⟩ := (new_R (d := d + 3) (kd := nI 6) h hX).1 hf
      exact ⟨Q, β, D', nn, g0, g1, g3, g4, g5, gn, _, goR ((hB (XN_of hX) (hO hX)).1 _ b1), rIe _ _ _, XRe_I (XR_XRe b2 (CI_lob h)) (Or.inl rfl)⟩
    · have hlk := nbX_lk hN
      have hk1 := hlk.1
      have hk2 := hlk.2.1
      have toW : ∀ j, lv S j → lv W j ∧ sA W 3 j = sA S 3 j := fun j hj => ⟨(hN.2.2.2.2.1 j).mpr (Or.inl hj), (hN.2.2.2.2.2.1 j hj).1⟩
      have hty : tyO F loc par ty W k := by
        refine ⟨fun c => ?_, fun c => ?_, fun c => ?_, fun c => ?_, fun _ => ⟨fn, o, w7, (toW fn hlf).1, by rw [(toW fn hlf).2]; exact hf3, w8, (toW o hol).1, by rw [(toW o hol).2]; exact h5⟩, fun c => ?_⟩
        · rw [w3] at c
          exact absurd c (by decide)
        · rw [w3] at c
          exact absurd c (by decide)
        · rw [w3] at c
          exact absurd c (by decide)
        · rw [w3] at c
          exact absurd c (by decide)
        · rw [w3] at c
          exact absurd c (by decide)
      have hCk := hCI ty (fun _ _ => rfl) hty
      obtain ⟨S', c1, c2, c3, c4⟩ := give_k (d := d + 4) (v := 1) (l2 := vL x) hCk hlk (Or.inl rfl) (by omega) (by omega)
      refine Or.inl ⟨S', goC ((hA 1 (by omega) qo).2 k X W S' (by omega) hk2 A B c1), fun p q => c2 p q, (hN.2.2.1.trans c3).wide, fun P T gT Q β D z nn g0 g1 g3 g4 g5 gn Sr hX => ?_⟩
      obtain ⟨β', D', r0, s, S1, eb, r1, eo, B1, ⟨s1, s0⟩, s108, ⟨Ns, s2⟩, hp, ⟨lS, hS1⟩, hX1, ⟨u1, u2⟩, ⟨u3, u4, u5, u6, u7, u8, u9, u10⟩, hfin⟩ := hR P T gT Q β D z nn g0 g1 g3 g4 g5 gn Sr hX
      obtain ⟨t, _, _, _, _, _, _, _, _, bt, t1, t2, t108, ⟨N, tS⟩, _⟩ := HR_o hX.1 hlh
      obtain ⟨t', v2, v3, v4, v5, v6, v7, n, m, bt', t1', t2', _, ⟨N', tS'⟩, wr, wd, wl, wj, f0, f1, fnn, fv, f6, h87⟩ := HR_o hX1.1 hlh
      have ett : t' = t := Option.some.inj (t1'.symm.trans (hp _ _ t1))
      subst ett
      obtain ⟨d1, d2, d3, d4, d5, d6, d7, d8, d9, d10, d11, d12, d13, d14, d15, d16, d17⟩ := wr
      have hve := fv e he
      obtain ⟨o', p1, p2, p3⟩ := vrel_ob hve
      have hf1 := hlf.1
      have hf2 := hlf.2.1
      have eo' : o' = fn := nI_j (by omega) (by omega) (p2.symm.trans hfn)
      subst eo'
      obtain ⟨_, _, ea⟩ := p3.resolve_left (fun c' => by omega)
      -- thing t' is not the new one
      have hne : β hh ≠ r0 := fun c => by
        rw [c, s0] at h87
        exact absurd h87 (by decide)
      obtain ⟨e1, _⟩ := tF_o hX1.1.wf u1 r1 s1 bt' hne
      obtain ⟨e2, e3⟩ := e1.2.2.2 t' t1'
      have hv4 : sV (rsT r0 s (nI 6) S1) (100 * t' + 4) = .ref v4 := by rw [(e2 4 (by omega)).2]; exact d6
      have hlv : sL (rsT r0 s (nI 6) S1) v4 e = lN (β o') := by rw [(e3 4 v4 (by omega) (by omega) d6).2]; exact ea
      have hb := (hB (XN_of hX) (hO hX)).2 r0 s t' v4 n (rsT r0 s (nI 6) S1) r1 B1 s1 s108 ⟨Ns, s2⟩ (by rw [u10 6151 (by omega)]; exact XR_51 hX1) t1 ⟨lS, hS1⟩ hv4 d12 d16 (by omega) hlv
      obtain ⟨x1, x2⟩ := tF_I (j := 11) (q := nI (β o')) u1 u2 (by omega)
      obtain ⟨y1, y2⟩ := tF_I (j := 12) (q := nI (β o)) x1 x2 (by omega)
      have hX2 := hfin _ y1 y2 u7 (by rw [rI, if_neg (by omega), rI, if_neg (by omega)]; exact u3) (by rw [rI, if_neg (by omega), rI, if_neg (by omega)]; exact u4) (by rw [rI, if_neg (by omega), rIe]; exact (if_neg (by omega)).symm) (by rw [rIe]; exact (if_neg (by have := hol.1; omega)).symm) ⟨fun c => by rw [w3] at c; exact absurd c (by decide), fun c => by rw [w3] at c; exact absurd c (by decide)⟩
      obtain ⟨D2, hX3⟩ := c4 P T gT Q β' D' z nn g0 g1 g3 g4 g5 gn _ hX2
      rw [eb] at hX3
      exact ⟨Q, β', D2, nn, g0, g1, g3, g4, g5, gn, _, goR hb, hX3⟩
theorem att44_R (h : CI F loc par ty G tq (x :: r) S) (hl : lob (vL x) + 1 ≤ vH x) (hex : exX F tq (x :: r) S) (hF : F q 0 rr) : opR F loc par ty G tq (d + 16) 217 [.ref 53, .int (nI 44), .int (nI q)] 400 [.ref 61, .int (nI 16), .int (nI rr)] x r (vH x - 1 + 1, vU x, vL x) S := by
  have m217 := ml_217
  have m400 := ml_400
  obtain ⟨b1, b2⟩ := rr_lt hex hF
  refine opR_uX (att_R (d := d) h hl hex hF) (fun rb S' hA => ?_) (fun {P T gT Q β D z nn g0 g1 g3 g4 g5 gn Sr} hX W => ?_)
  · exact Ans.of (by rw [m217]; exact Nat.le_of_ble_eq_true rfl) (Bod.lv (by rfl) (mA2_1 (d := d + 7) (by omega) rfl (hA.up (by omega))))
  · exact ⟨fun hA => Ans.of (by rw [m400]; exact Nat.le_of_ble_eq_true rfl) (Bod.lv (by rfl) (rPl_10 (d := d + 7) (by omega) (by omega) rfl (hA.up (by omega)))), fun hA => Ans.of (by rw [m400]; exact Nat.le_of_ble_eq_true rfl) (Bod.lv (by rfl) (rPl_11 (d := d + 7) (by omega) (by omega) rfl (hA.up (by omega))))⟩
end
