/-! EVERY ENTRY OF THE TABLES HAS ITS WORD in lw_tbl, at its place -/
/-- the word of a field entry -/
def sm_fw (o : Nat) (e : Nat × Nat × Nat × Nat × Nat) : Cond :=
  if e.2.2.2.1 = 0 then .fieldLink (sm_on o) e.1 ((sm_T e.2.1).2.1 e.2.2.1).1 ((sm_T e.2.1).2.1 e.2.2.1).2.1 ((sm_T e.2.1).2.1 e.2.2.1).2.2.1
  else .fieldLinkNest (sm_on o) e.1 ((sm_T e.2.1).2.1 e.2.2.1).1 ((sm_T e.2.1).2.1 e.2.2.1).2.1 ((sm_T e.2.1).2.1 e.2.2.1).2.2.1 (sm_ho e.2.2.2.1)
def sm_fwok (o : Nat) : Prop := (mt_f.getD o []).map (fun e => lw_tbl[e.2.2.2.2]?) = (mt_f.getD o []).map (fun e => some (sm_fw o e))
set_option maxRecDepth 100000 in
theorem sm_fwok_0 : sm_fwok 0 := by unfold sm_fwok; rfl
set_option maxRecDepth 100000 in
theorem sm_fwok_1 : sm_fwok 1 := by unfold sm_fwok; rfl
set_option maxRecDepth 100000 in
theorem sm_fwok_2 : sm_fwok 2 := by unfold sm_fwok; rfl
set_option maxRecDepth 100000 in
theorem sm_fwok_3 : sm_fwok 3 := by unfold sm_fwok; rfl
set_option maxRecDepth 100000 in
theorem sm_fwok_4 : sm_fwok 4 := by unfold sm_fwok; rfl
set_option maxRecDepth 100000 in
theorem sm_fwok_5 : sm_fwok 5 := by unfold sm_fwok; rfl
set_option maxRecDepth 100000 in
theorem sm_fwok_6 : sm_fwok 6 := by unfold sm_fwok; rfl
set_option maxRecDepth 100000 in
theorem sm_fwok_7 : sm_fwok 7 := by unfold sm_fwok; rfl
set_option maxRecDepth 100000 in
theorem sm_fwok_8 : sm_fwok 8 := by unfold sm_fwok; rfl
set_option maxRecDepth 100000 in
theorem sm_fwok_9 : sm_fwok 9 := by unfold sm_fwok; rfl
set_option maxRecDepth 100000 in
theorem sm_fwok_10 : sm_fwok 10 := by unfold sm_fwok; rfl
set_option maxRecDepth 100000 in
theorem sm_fwok_11 : sm_fwok 11 := by unfold sm_fwok; rfl
set_option maxRecDepth 100000 in
theorem sm_fwok_12 : sm_fwok 12 := by unfold sm_fwok; rfl
set_option maxRecDepth 100000 in
theorem sm_fwok_13 : sm_fwok 13 := by unfold sm_fwok; rfl
set_option maxRecDepth 100000 in
theorem sm_fwok_14 : sm_fwok 14 := by unfold sm_fwok; rfl
set_option maxRecDepth 100000 in
theorem sm_fwok_15 : sm_fwok 15 := by unfold sm_fwok; rfl
set_option maxRecDepth 100000 in
theorem sm_fwok_16 : sm_fwok 16 := by unfold sm_fwok; rfl
set_option maxRecDepth 100000 in
theorem sm_fwok_17 : sm_fwok 17 := by unfold sm_fwok; rfl
set_option maxRecDepth 100000 in
theorem sm_fwok_18 : sm_fwok 18 := by unfold sm_fwok; rfl
set_option maxRecDepth 100000 in
theorem sm_fwok_19 : sm_fwok 19 := by unfold sm_fwok; rfl
set_option maxRecDepth 100000 in
theorem sm_fwok_20 : sm_fwok 20 := by unfold sm_fwok; rfl
set_option maxRecDepth 100000 in
theorem sm_fwok_21 : sm_fwok 21 := by unfold sm_fwok; rfl
set_option maxRecDepth 100000 in
theorem sm_fwok_22 : sm_fwok 22 := by unfold sm_fwok; rfl
/-- the word of a call entry -/
def sm_kw (o : Nat) (e : Nat × Nat × Nat × Nat × Nat) : Cond :=
  if e.2.1 = 6 then .methodLink (sm_on o) e.1 Lib.objectInit
  else if e.2.1 = 7 then .methodLink (sm_on o) e.1 arraycopyName
  else if e.2.2.2.1 = 0 then .methodLink (sm_on o) e.1 (sm_y e.2.2.1) else .methodLinkNest (sm_on o) e.1 (sm_y e.2.2.1) (sm_ho e.2.2.2.1)
def sm_kwok (o : Nat) : Prop := (mt_k.getD o []).map (fun e => lw_tbl[e.2.2.2.2]?) = (mt_k.getD o []).map (fun e => some (sm_kw o e))
set_option maxRecDepth 100000 in
theorem sm_kwok_0 : sm_kwok 0 := by unfold sm_kwok; rfl
set_option maxRecDepth 100000 in
theorem sm_kwok_1 : sm_kwok 1 := by unfold sm_kwok; rfl
set_option maxRecDepth 100000 in
theorem sm_kwok_2 : sm_kwok 2 := by unfold sm_kwok; rfl
set_option maxRecDepth 100000 in
theorem sm_kwok_3 : sm_kwok 3 := by unfold sm_kwok; rfl
set_option maxRecDepth 100000 in
theorem sm_kwok_4 : sm_kwok 4 := by unfold sm_kwok; rfl
set_option maxRecDepth 100000 in
theorem sm_kwok_5 : sm_kwok 5 := by unfold sm_kwok; rfl
set_option maxRecDepth 100000 in
theorem sm_kwok_6 : sm_kwok 6 := by unfold sm_kwok; rfl
set_option maxRecDepth 100000 in
theorem sm_kwok_7 : sm_kwok 7 := by unfold sm_kwok; rfl
set_option maxRecDepth 100000 in
theorem sm_kwok_8 : sm_kwok 8 := by unfold sm_kwok; rfl
set_option maxRecDepth 100000 in
theorem sm_kwok_9 : sm_kwok 9 := by unfold sm_kwok; rfl
set_option maxRecDepth 100000 in
theorem sm_kwok_10 : sm_kwok 10 := by unfold sm_kwok; rfl
set_option maxRecDepth 100000 in
theorem sm_kwok_11 : sm_kwok 11 := by unfold sm_kwok; rfl
set_option maxRecDepth 100000 in
theorem sm_kwok_12 : sm_kwok 12 := by unfold sm_kwok; rfl
set_option maxRecDepth 100000 in
theorem sm_kwok_13 : sm_kwok 13 := by unfold sm_kwok; rfl
set_option maxRecDepth 100000 in
theorem sm_kwok_14 : sm_kwok 14 := by unfold sm_kwok; rfl
set_option maxRecDepth 100000 in
theorem sm_kwok_15 : sm_kwok 15 := by unfold sm_kwok; rfl
set_option maxRecDepth 100000 in
theorem sm_kwok_16 : sm_kwok 16 := by unfold sm_kwok; rfl
set_option maxRecDepth 100000 in
theorem sm_kwok_17 : sm_kwok 17 := by unfold sm_kwok; rfl
set_option maxRecDepth 100000 in
theorem sm_kwok_18 : sm_kwok 18 := by unfold sm_kwok; rfl
set_option maxRecDepth 100000 in
theorem sm_kwok_19 : sm_kwok 19 := by unfold sm_kwok; rfl
set_option maxRecDepth 100000 in
theorem sm_kwok_20 : sm_kwok 20 := by unfold sm_kwok; rfl
set_option maxRecDepth 100000 in
theorem sm_kwok_21 : sm_kwok 21 := by unfold sm_kwok; rfl
set_option maxRecDepth 100000 in
theorem sm_kwok_22 : sm_kwok 22 := by unfold sm_kwok; rfl
def sm_nwok (o : Nat) : Prop := (mt_n.getD o []).map (fun e => (lw_tbl[e.2.2.1]?, lw_tbl[e.2.2.2.1]?, lw_tbl[e.2.2.2.2]?)) = (mt_n.getD o []).map (fun e => (some (.classLink (sm_on o) e.1 (sm_T e.2.1).1), some (.instantiable (sm_T e.2.1).1 (sm_T e.2.1).2.2), some (.initialized (sm_T e.2.1).1)))
set_option maxRecDepth 100000 in
theorem sm_nwok_0 : sm_nwok 0 := by unfold sm_nwok; rfl
set_option maxRecDepth 100000 in
theorem sm_nwok_1 : sm_nwok 1 := by unfold sm_nwok; rfl
set_option maxRecDepth 100000 in
theorem sm_nwok_2 : sm_nwok 2 := by unfold sm_nwok; rfl
set_option maxRecDepth 100000 in
theorem sm_nwok_3 : sm_nwok 3 := by unfold sm_nwok; rfl
set_option maxRecDepth 100000 in
theorem sm_nwok_4 : sm_nwok 4 := by unfold sm_nwok; rfl
set_option maxRecDepth 100000 in
theorem sm_nwok_5 : sm_nwok 5 := by unfold sm_nwok; rfl
set_option maxRecDepth 100000 in
theorem sm_nwok_6 : sm_nwok 6 := by unfold sm_nwok; rfl
set_option maxRecDepth 100000 in
theorem sm_nwok_7 : sm_nwok 7 := by unfold sm_nwok; rfl
set_option maxRecDepth 100000 in
theorem sm_nwok_8 : sm_nwok 8 := by unfold sm_nwok; rfl
set_option maxRecDepth 100000 in
theorem sm_nwok_9 : sm_nwok 9 := by unfold sm_nwok; rfl
set_option maxRecDepth 100000 in
theorem sm_nwok_10 : sm_nwok 10 := by unfold sm_nwok; rfl
set_option maxRecDepth 100000 in
theorem sm_nwok_11 : sm_nwok 11 := by unfold sm_nwok; rfl
set_option maxRecDepth 100000 in
theorem sm_nwok_12 : sm_nwok 12 := by unfold sm_nwok; rfl
set_option maxRecDepth 100000 in
theorem sm_nwok_13 : sm_nwok 13 := by unfold sm_nwok; rfl
set_option maxRecDepth 100000 in
theorem sm_nwok_14 : sm_nwok 14 := by unfold sm_nwok; rfl
set_option maxRecDepth 100000 in
theorem sm_nwok_15 : sm_nwok 15 := by unfold sm_nwok; rfl
set_option maxRecDepth 100000 in
theorem sm_nwok_16 : sm_nwok 16 := by unfold sm_nwok; rfl
set_option maxRecDepth 100000 in
theorem sm_nwok_17 : sm_nwok 17 := by unfold sm_nwok; rfl
set_option maxRecDepth 100000 in
theorem sm_nwok_18 : sm_nwok 18 := by unfold sm_nwok; rfl
set_option maxRecDepth 100000 in
theorem sm_nwok_19 : sm_nwok 19 := by unfold sm_nwok; rfl
set_option maxRecDepth 100000 in
theorem sm_nwok_20 : sm_nwok 20 := by unfold sm_nwok; rfl
set_option maxRecDepth 100000 in
theorem sm_nwok_21 : sm_nwok 21 := by unfold sm_nwok; rfl
set_option maxRecDepth 100000 in
theorem sm_nwok_22 : sm_nwok 22 := by unfold sm_nwok; rfl
def sm_elS (t : Nat) : String := match sm_el t with
  | .object C => C
  | t => t.toString
def sm_awok (o : Nat) : Prop := (mt_a.getD o []).map (fun e => (lw_tbl[e.2.2.1]?, lw_tbl[e.2.2.2]?)) = (mt_a.getD o []).map (fun e => (some (.classLink (sm_on o) e.1 (sm_elS e.2.1)), some (.arrayOver (sm_el e.2.1))))
set_option maxRecDepth 100000 in
theorem sm_awok_0 : sm_awok 0 := by unfold sm_awok; rfl
set_option maxRecDepth 100000 in
theorem sm_awok_1 : sm_awok 1 := by unfold sm_awok; rfl
set_option maxRecDepth 100000 in
theorem sm_awok_2 : sm_awok 2 := by unfold sm_awok; rfl
set_option maxRecDepth 100000 in
theorem sm_awok_3 : sm_awok 3 := by unfold sm_awok; rfl
set_option maxRecDepth 100000 in
theorem sm_awok_4 : sm_awok 4 := by unfold sm_awok; rfl
set_option maxRecDepth 100000 in
theorem sm_awok_5 : sm_awok 5 := by unfold sm_awok; rfl
set_option maxRecDepth 100000 in
theorem sm_awok_6 : sm_awok 6 := by unfold sm_awok; rfl
set_option maxRecDepth 100000 in
theorem sm_awok_7 : sm_awok 7 := by unfold sm_awok; rfl
set_option maxRecDepth 100000 in
theorem sm_awok_8 : sm_awok 8 := by unfold sm_awok; rfl
set_option maxRecDepth 100000 in
theorem sm_awok_9 : sm_awok 9 := by unfold sm_awok; rfl
set_option maxRecDepth 100000 in
theorem sm_awok_10 : sm_awok 10 := by unfold sm_awok; rfl
set_option maxRecDepth 100000 in
theorem sm_awok_11 : sm_awok 11 := by unfold sm_awok; rfl
set_option maxRecDepth 100000 in
theorem sm_awok_12 : sm_awok 12 := by unfold sm_awok; rfl
set_option maxRecDepth 100000 in
theorem sm_awok_13 : sm_awok 13 := by unfold sm_awok; rfl
set_option maxRecDepth 100000 in
theorem sm_awok_14 : sm_awok 14 := by unfold sm_awok; rfl
set_option maxRecDepth 100000 in
theorem sm_awok_15 : sm_awok 15 := by unfold sm_awok; rfl
set_option maxRecDepth 100000 in
theorem sm_awok_16 : sm_awok 16 := by unfold sm_awok; rfl
set_option maxRecDepth 100000 in
theorem sm_awok_17 : sm_awok 17 := by unfold sm_awok; rfl
set_option maxRecDepth 100000 in
theorem sm_awok_18 : sm_awok 18 := by unfold sm_awok; rfl
set_option maxRecDepth 100000 in
theorem sm_awok_19 : sm_awok 19 := by unfold sm_awok; rfl
set_option maxRecDepth 100000 in
theorem sm_awok_20 : sm_awok 20 := by unfold sm_awok; rfl
set_option maxRecDepth 100000 in
theorem sm_awok_21 : sm_awok 21 := by unfold sm_awok; rfl
set_option maxRecDepth 100000 in
theorem sm_awok_22 : sm_awok 22 := by unfold sm_awok; rfl
def sm_ciok (o : Nat) : Prop := (mt_ci.getD o []).map (fun e => lw_tbl[e.2.2]?) = (mt_ci.getD o []).map (fun e => some (.constant (sm_on o) e.1 e.2.1))
set_option maxRecDepth 100000 in
theorem sm_ciok_0 : sm_ciok 0 := by unfold sm_ciok; rfl
set_option maxRecDepth 100000 in
theorem sm_ciok_1 : sm_ciok 1 := by unfold sm_ciok; rfl
set_option maxRecDepth 100000 in
theorem sm_ciok_2 : sm_ciok 2 := by unfold sm_ciok; rfl
set_option maxRecDepth 100000 in
theorem sm_ciok_3 : sm_ciok 3 := by unfold sm_ciok; rfl
set_option maxRecDepth 100000 in
theorem sm_ciok_4 : sm_ciok 4 := by unfold sm_ciok; rfl
set_option maxRecDepth 100000 in
theorem sm_ciok_5 : sm_ciok 5 := by unfold sm_ciok; rfl
set_option maxRecDepth 100000 in
theorem sm_ciok_6 : sm_ciok 6 := by unfold sm_ciok; rfl
set_option maxRecDepth 100000 in
theorem sm_ciok_7 : sm_ciok 7 := by unfold sm_ciok; rfl
set_option maxRecDepth 100000 in
theorem sm_ciok_8 : sm_ciok 8 := by unfold sm_ciok; rfl
set_option maxRecDepth 100000 in
theorem sm_ciok_9 : sm_ciok 9 := by unfold sm_ciok; rfl
set_option maxRecDepth 100000 in
theorem sm_ciok_10 : sm_ciok 10 := by unfold sm_ciok; rfl
set_option maxRecDepth 100000 in
theorem sm_ciok_11 : sm_ciok 11 := by unfold sm_ciok; rfl
set_option maxRecDepth 100000 in
theorem sm_ciok_12 : sm_ciok 12 := by unfold sm_ciok; rfl
set_option maxRecDepth 100000 in
theorem sm_ciok_13 : sm_ciok 13 := by unfold sm_ciok; rfl
set_option maxRecDepth 100000 in
theorem sm_ciok_14 : sm_ciok 14 := by unfold sm_ciok; rfl
set_option maxRecDepth 100000 in
theorem sm_ciok_15 : sm_ciok 15 := by unfold sm_ciok; rfl
set_option maxRecDepth 100000 in
theorem sm_ciok_16 : sm_ciok 16 := by unfold sm_ciok; rfl
set_option maxRecDepth 100000 in
theorem sm_ciok_17 : sm_ciok 17 := by unfold sm_ciok; rfl
set_option maxRecDepth 100000 in
theorem sm_ciok_18 : sm_ciok 18 := by unfold sm_ciok; rfl
set_option maxRecDepth 100000 in
theorem sm_ciok_19 : sm_ciok 19 := by unfold sm_ciok; rfl
set_option maxRecDepth 100000 in
theorem sm_ciok_20 : sm_ciok 20 := by unfold sm_ciok; rfl
set_option maxRecDepth 100000 in
theorem sm_ciok_21 : sm_ciok 21 := by unfold sm_ciok; rfl
set_option maxRecDepth 100000 in
theorem sm_ciok_22 : sm_ciok 22 := by unfold sm_ciok; rfl
def sm_cjok (o : Nat) : Prop := (mt_cj.getD o []).map (fun e => lw_tbl[e.2.2]?) = (mt_cj.getD o []).map (fun e => some (.constantLong (sm_on o) e.1 e.2.1))
set_option maxRecDepth 100000 in
theorem sm_cjok_0 : sm_cjok 0 := by unfold sm_cjok; rfl
set_option maxRecDepth 100000 in
theorem sm_cjok_1 : sm_cjok 1 := by unfold sm_cjok; rfl
set_option maxRecDepth 100000 in
theorem sm_cjok_2 : sm_cjok 2 := by unfold sm_cjok; rfl
set_option maxRecDepth 100000 in
theorem sm_cjok_3 : sm_cjok 3 := by unfold sm_cjok; rfl
set_option maxRecDepth 100000 in
theorem sm_cjok_4 : sm_cjok 4 := by unfold sm_cjok; rfl
set_option maxRecDepth 100000 in
theorem sm_cjok_5 : sm_cjok 5 := by unfold sm_cjok; rfl
set_option maxRecDepth 100000 in
theorem sm_cjok_6 : sm_cjok 6 := by unfold sm_cjok; rfl
set_option maxRecDepth 100000 in
theorem sm_cjok_7 : sm_cjok 7 := by unfold sm_cjok; rfl
set_option maxRecDepth 100000 in
theorem sm_cjok_8 : sm_cjok 8 := by unfold sm_cjok; rfl
set_option maxRecDepth 100000 in
theorem sm_cjok_9 : sm_cjok 9 := by unfold sm_cjok; rfl
set_option maxRecDepth 100000 in
theorem sm_cjok_10 : sm_cjok 10 := by unfold sm_cjok; rfl
set_option maxRecDepth 100000 in
theorem sm_cjok_11 : sm_cjok 11 := by unfold sm_cjok; rfl
set_option maxRecDepth 100000 in
theorem sm_cjok_12 : sm_cjok 12 := by unfold sm_cjok; rfl
set_option maxRecDepth 100000 in
theorem sm_cjok_13 : sm_cjok 13 := by unfold sm_cjok; rfl
set_option maxRecDepth 100000 in
theorem sm_cjok_14 : sm_cjok 14 := by unfold sm_cjok; rfl
set_option maxRecDepth 100000 in
theorem sm_cjok_15 : sm_cjok 15 := by unfold sm_cjok; rfl
set_option maxRecDepth 100000 in
theorem sm_cjok_16 : sm_cjok 16 := by unfold sm_cjok; rfl
set_option maxRecDepth 100000 in
theorem sm_cjok_17 : sm_cjok 17 := by unfold sm_cjok; rfl
set_option maxRecDepth 100000 in
theorem sm_cjok_18 : sm_cjok 18 := by unfold sm_cjok; rfl
set_option maxRecDepth 100000 in
theorem sm_cjok_19 : sm_cjok 19 := by unfold sm_cjok; rfl
set_option maxRecDepth 100000 in
theorem sm_cjok_20 : sm_cjok 20 := by unfold sm_cjok; rfl
set_option maxRecDepth 100000 in
theorem sm_cjok_21 : sm_cjok 21 := by unfold sm_cjok; rfl
set_option maxRecDepth 100000 in
theorem sm_cjok_22 : sm_cjok 22 := by unfold sm_cjok; rfl
def sm_csok (o : Nat) : Prop := (mt_cs.getD o []).map (fun e => lw_tbl[e.2.2]?) = (mt_cs.getD o []).map (fun e => some (.stringRef (sm_on o) e.1 (mt_st.getD e.2.1 "")))
set_option maxRecDepth 100000 in
theorem sm_csok_0 : sm_csok 0 := by unfold sm_csok; rfl
set_option maxRecDepth 100000 in
theorem sm_csok_1 : sm_csok 1 := by unfold sm_csok; rfl
set_option maxRecDepth 100000 in
theorem sm_csok_2 : sm_csok 2 := by unfold sm_csok; rfl
set_option maxRecDepth 100000 in
theorem sm_csok_3 : sm_csok 3 := by unfold sm_csok; rfl
set_option maxRecDepth 100000 in
theorem sm_csok_4 : sm_csok 4 := by unfold sm_csok; rfl
set_option maxRecDepth 100000 in
theorem sm_csok_5 : sm_csok 5 := by unfold sm_csok; rfl
set_option maxRecDepth 100000 in
theorem sm_csok_6 : sm_csok 6 := by unfold sm_csok; rfl
set_option maxRecDepth 100000 in
theorem sm_csok_7 : sm_csok 7 := by unfold sm_csok; rfl
set_option maxRecDepth 100000 in
theorem sm_csok_8 : sm_csok 8 := by unfold sm_csok; rfl
set_option maxRecDepth 100000 in
theorem sm_csok_9 : sm_csok 9 := by unfold sm_csok; rfl
set_option maxRecDepth 100000 in
theorem sm_csok_10 : sm_csok 10 := by unfold sm_csok; rfl
set_option maxRecDepth 100000 in
theorem sm_csok_11 : sm_csok 11 := by unfold sm_csok; rfl
set_option maxRecDepth 100000 in
theorem sm_csok_12 : sm_csok 12 := by unfold sm_csok; rfl
set_option maxRecDepth 100000 in
theorem sm_csok_13 : sm_csok 13 := by unfold sm_csok; rfl
set_option maxRecDepth 100000 in
theorem sm_csok_14 : sm_csok 14 := by unfold sm_csok; rfl
set_option maxRecDepth 100000 in
theorem sm_csok_15 : sm_csok 15 := by unfold sm_csok; rfl
set_option maxRecDepth 100000 in
theorem sm_csok_16 : sm_csok 16 := by unfold sm_csok; rfl
set_option maxRecDepth 100000 in
theorem sm_csok_17 : sm_csok 17 := by unfold sm_csok; rfl
set_option maxRecDepth 100000 in
theorem sm_csok_18 : sm_csok 18 := by unfold sm_csok; rfl
set_option maxRecDepth 100000 in
theorem sm_csok_19 : sm_csok 19 := by unfold sm_csok; rfl
set_option maxRecDepth 100000 in
theorem sm_csok_20 : sm_csok 20 := by unfold sm_csok; rfl
set_option maxRecDepth 100000 in
theorem sm_csok_21 : sm_csok 21 := by unfold sm_csok; rfl
set_option maxRecDepth 100000 in
theorem sm_csok_22 : sm_csok 22 := by unfold sm_csok; rfl
set_option maxRecDepth 100000 in
theorem sm_mok_0 : mt_m_0.map (fun e => (lw_tbl[e.2.2.2.2.2.2.2.1]?, lw_tbl[e.2.2.2.2.2.2.2.2.1]?, lw_tbl[e.2.2.2.2.2.2.2.2.2.2]?)) = mt_m_0.map (fun e => (some (.code e.1 e.2.1 e.2.2.1 e.2.2.2.1), some (if e.2.2.2.2.2.2.1 = true then .static e.1 else .instanceMethod e.1), some (.initialized e.1.cls))) := by rfl
set_option maxRecDepth 100000 in
theorem sm_mse_0 : mt_m_0.map (fun e => if e.2.2.2.2.2.2.1 = true ∨ (e.1.name == "<init>") = true then none else lw_tbl[e.2.2.2.2.2.2.2.2.2.1]?) = mt_m_0.map (fun e => if e.2.2.2.2.2.2.1 = true ∨ (e.1.name == "<init>") = true then none else some (.selects e.1.cls e.1 e.1)) := by decide +kernel
theorem sm_mpl_0 : mt_m_0.all (fun e => plainFor e.1 && (e.1.cls != "java/lang/invoke/MethodHandle") && (e.1.cls != "java/lang/invoke/VarHandle") && (e.1.cls == sm_on e.2.2.2.2.1) && decide ((parseMethodDescriptor e.1.desc).map (fun d => d.parameters.length) = some e.2.2.2.2.2.1)) = true := by decide +kernel
set_option maxRecDepth 100000 in
theorem sm_mok_1 : mt_m_1.map (fun e => (lw_tbl[e.2.2.2.2.2.2.2.1]?, lw_tbl[e.2.2.2.2.2.2.2.2.1]?, lw_tbl[e.2.2.2.2.2.2.2.2.2.2]?)) = mt_m_1.map (fun e => (some (.code e.1 e.2.1 e.2.2.1 e.2.2.2.1), some (if e.2.2.2.2.2.2.1 = true then .static e.1 else .instanceMethod e.1), some (.initialized e.1.cls))) := by rfl
set_option maxRecDepth 100000 in
theorem sm_mse_1 : mt_m_1.map (fun e => if e.2.2.2.2.2.2.1 = true ∨ (e.1.name == "<init>") = true then none else lw_tbl[e.2.2.2.2.2.2.2.2.2.1]?) = mt_m_1.map (fun e => if e.2.2.2.2.2.2.1 = true ∨ (e.1.name == "<init>") = true then none else some (.selects e.1.cls e.1 e.1)) := by decide +kernel
theorem sm_mpl_1 : mt_m_1.all (fun e => plainFor e.1 && (e.1.cls != "java/lang/invoke/MethodHandle") && (e.1.cls != "java/lang/invoke/VarHandle") && (e.1.cls == sm_on e.2.2.2.2.1) && decide ((parseMethodDescriptor e.1.desc).map (fun d => d.parameters.length) = some e.2.2.2.2.2.1)) = true := by decide +kernel
set_option maxRecDepth 100000 in
theorem sm_mok_2 : mt_m_2.map (fun e => (lw_tbl[e.2.2.2.2.2.2.2.1]?, lw_tbl[e.2.2.2.2.2.2.2.2.1]?, lw_tbl[e.2.2.2.2.2.2.2.2.2.2]?)) = mt_m_2.map (fun e => (some (.code e.1 e.2.1 e.2.2.1 e.2.2.2.1), some (if e.2.2.2.2.2.2.1 = true then .static e.1 else .instanceMethod e.1), some (.initialized e.1.cls))) := by rfl
set_option maxRecDepth 100000 in
theorem sm_mse_2 : mt_m_2.map (fun e => if e.2.2.2.2.2.2.1 = true ∨ (e.1.name == "<init>") = true then none else lw_tbl[e.2.2.2.2.2.2.2.2.2.1]?) = mt_m_2.map (fun e => if e.2.2.2.2.2.2.1 = true ∨ (e.1.name == "<init>") = true then none else some (.selects e.1.cls e.1 e.1)) := by decide +kernel
theorem sm_mpl_2 : mt_m_2.all (fun e => plainFor e.1 && (e.1.cls != "java/lang/invoke/MethodHandle") && (e.1.cls != "java/lang/invoke/VarHandle") && (e.1.cls == sm_on e.2.2.2.2.1) && decide ((parseMethodDescriptor e.1.desc).map (fun d => d.parameters.length) = some e.2.2.2.2.2.1)) = true := by decide +kernel
set_option maxRecDepth 100000 in
theorem sm_mok_3 : mt_m_3.map (fun e => (lw_tbl[e.2.2.2.2.2.2.2.1]?, lw_tbl[e.2.2.2.2.2.2.2.2.1]?, lw_tbl[e.2.2.2.2.2.2.2.2.2.2]?)) = mt_m_3.map (fun e => (some (.code e.1 e.2.1 e.2.2.1 e.2.2.2.1), some (if e.2.2.2.2.2.2.1 = true then .static e.1 else .instanceMethod e.1), some (.initialized e.1.cls))) := by rfl
set_option maxRecDepth 100000 in
theorem sm_mse_3 : mt_m_3.map (fun e => if e.2.2.2.2.2.2.1 = true ∨ (e.1.name == "<init>") = true then none else lw_tbl[e.2.2.2.2.2.2.2.2.2.1]?) = mt_m_3.map (fun e => if e.2.2.2.2.2.2.1 = true ∨ (e.1.name == "<init>") = true then none else some (.selects e.1.cls e.1 e.1)) := by decide +kernel
theorem sm_mpl_3 : mt_m_3.all (fun e => plainFor e.1 && (e.1.cls != "java/lang/invoke/MethodHandle") && (e.1.cls != "java/lang/invoke/VarHandle") && (e.1.cls == sm_on e.2.2.2.2.1) && decide ((parseMethodDescriptor e.1.desc).map (fun d => d.parameters.length) = some e.2.2.2.2.2.1)) = true := by decide +kernel
set_option maxRecDepth 100000 in
theorem sm_mok_4 : mt_m_4.map (fun e => (lw_tbl[e.2.2.2.2.2.2.2.1]?, lw_tbl[e.2.2.2.2.2.2.2.2.1]?, lw_tbl[e.2.2.2.2.2.2.2.2.2.2]?)) = mt_m_4.map (fun e => (some (.code e.1 e.2.1 e.2.2.1 e.2.2.2.1), some (if e.2.2.2.2.2.2.1 = true then .static e.1 else .instanceMethod e.1), some (.initialized e.1.cls))) := by rfl
set_option maxRecDepth 100000 in
theorem sm_mse_4 : mt_m_4.map (fun e => if e.2.2.2.2.2.2.1 = true ∨ (e.1.name == "<init>") = true then none else lw_tbl[e.2.2.2.2.2.2.2.2.2.1]?) = mt_m_4.map (fun e => if e.2.2.2.2.2.2.1 = true ∨ (e.1.name == "<init>") = true then none else some (.selects e.1.cls e.1 e.1)) := by decide +kernel
theorem sm_mpl_4 : mt_m_4.all (fun e => plainFor e.1 && (e.1.cls != "java/lang/invoke/MethodHandle") && (e.1.cls != "java/lang/invoke/VarHandle") && (e.1.cls == sm_on e.2.2.2.2.1) && decide ((parseMethodDescriptor e.1.desc).map (fun d => d.parameters.length) = some e.2.2.2.2.2.1)) = true := by decide +kernel
set_option maxRecDepth 100000 in
theorem sm_mok_5 : mt_m_5.map (fun e => (lw_tbl[e.2.2.2.2.2.2.2.1]?, lw_tbl[e.2.2.2.2.2.2.2.2.1]?, lw_tbl[e.2.2.2.2.2.2.2.2.2.2]?)) = mt_m_5.map (fun e => (some (.code e.1 e.2.1 e.2.2.1 e.2.2.2.1), some (if e.2.2.2.2.2.2.1 = true then .static e.1 else .instanceMethod e.1), some (.initialized e.1.cls))) := by rfl
set_option maxRecDepth 100000 in
theorem sm_mse_5 : mt_m_5.map (fun e => if e.2.2.2.2.2.2.1 = true ∨ (e.1.name == "<init>") = true then none else lw_tbl[e.2.2.2.2.2.2.2.2.2.1]?) = mt_m_5.map (fun e => if e.2.2.2.2.2.2.1 = true ∨ (e.1.name == "<init>") = true then none else some (.selects e.1.cls e.1 e.1)) := by decide +kernel
theorem sm_mpl_5 : mt_m_5.all (fun e => plainFor e.1 && (e.1.cls != "java/lang/invoke/MethodHandle") && (e.1.cls != "java/lang/invoke/VarHandle") && (e.1.cls == sm_on e.2.2.2.2.1) && decide ((parseMethodDescriptor e.1.desc).map (fun d => d.parameters.length) = some e.2.2.2.2.2.1)) = true := by decide +kernel
set_option maxRecDepth 100000 in
theorem sm_mok_6 : mt_m_6.map (fun e => (lw_tbl[e.2.2.2.2.2.2.2.1]?, lw_tbl[e.2.2.2.2.2.2.2.2.1]?, lw_tbl[e.2.2.2.2.2.2.2.2.2.2]?)) = mt_m_6.map (fun e => (some (.code e.1 e.2.1 e.2.2.1 e.2.2.2.1), some (if e.2.2.2.2.2.2.1 = true then .static e.1 else .instanceMethod e.1), some (.initialized e.1.cls))) := by rfl
set_option maxRecDepth 100000 in
theorem sm_mse_6 : mt_m_6.map (fun e => if e.2.2.2.2.2.2.1 = true ∨ (e.1.name == "<init>") = true then none else lw_tbl[e.2.2.2.2.2.2.2.2.2.1]?) = mt_m_6.map (fun e => if e.2.2.2.2.2.2.1 = true ∨ (e.1.name == "<init>") = true then none else some (.selects e.1.cls e.1 e.1)) := by decide +kernel
theorem sm_mpl_6 : mt_m_6.all (fun e => plainFor e.1 && (e.1.cls != "java/lang/invoke/MethodHandle") && (e.1.cls != "java/lang/invoke/VarHandle") && (e.1.cls == sm_on e.2.2.2.2.1) && decide ((parseMethodDescriptor e.1.desc).map (fun d => d.parameters.length) = some e.2.2.2.2.2.1)) = true := by decide +kernel
set_option maxRecDepth 100000 in
theorem sm_mok_7 : mt_m_7.map (fun e => (lw_tbl[e.2.2.2.2.2.2.2.1]?, lw_tbl[e.2.2.2.2.2.2.2.2.1]?, lw_tbl[e.2.2.2.2.2.2.2.2.2.2]?)) = mt_m_7.map (fun e => (some (.code e.1 e.2.1 e.2.2.1 e.2.2.2.1), some (if e.2.2.2.2.2.2.1 = true then .static e.1 else .instanceMethod e.1), some (.initialized e.1.cls))) := by rfl
set_option maxRecDepth 100000 in
theorem sm_mse_7 : mt_m_7.map (fun e => if e.2.2.2.2.2.2.1 = true ∨ (e.1.name == "<init>") = true then none else lw_tbl[e.2.2.2.2.2.2.2.2.2.1]?) = mt_m_7.map (fun e => if e.2.2.2.2.2.2.1 = true ∨ (e.1.name == "<init>") = true then none else some (.selects e.1.cls e.1 e.1)) := by decide +kernel
theorem sm_mpl_7 : mt_m_7.all (fun e => plainFor e.1 && (e.1.cls != "java/lang/invoke/MethodHandle") && (e.1.cls != "java/lang/invoke/VarHandle") && (e.1.cls == sm_on e.2.2.2.2.1) && decide ((parseMethodDescriptor e.1.desc).map (fun d => d.parameters.length) = some e.2.2.2.2.2.1)) = true := by decide +kernel
set_option maxRecDepth 100000 in
theorem sm_mok_8 : mt_m_8.map (fun e => (lw_tbl[e.2.2.2.2.2.2.2.1]?, lw_tbl[e.2.2.2.2.2.2.2.2.1]?, lw_tbl[e.2.2.2.2.2.2.2.2.2.2]?)) = mt_m_8.map (fun e => (some (.code e.1 e.2.1 e.2.2.1 e.2.2.2.1), some (if e.2.2.2.2.2.2.1 = true then .static e.1 else .instanceMethod e.1), some (.initialized e.1.cls))) := by rfl
set_option maxRecDepth 100000 in
theorem sm_mse_8 : mt_m_8.map (fun e => if e.2.2.2.2.2.2.1 = true ∨ (e.1.name == "<init>") = true then none else lw_tbl[e.2.2.2.2.2.2.2.2.2.1]?) = mt_m_8.map (fun e => if e.2.2.2.2.2.2.1 = true ∨ (e.1.name == "<init>") = true then none else some (.selects e.1.cls e.1 e.1)) := by decide +kernel
theorem sm_mpl_8 : mt_m_8.all (fun e => plainFor e.1 && (e.1.cls != "java/lang/invoke/MethodHandle") && (e.1.cls != "java/lang/invoke/VarHandle") && (e.1.cls == sm_on e.2.2.2.2.1) && decide ((parseMethodDescriptor e.1.desc).map (fun d => d.parameters.length) = some e.2.2.2.2.2.1)) = true := by decide +kernel
set_option maxRecDepth 100000 in
theorem sm_mok_9 : mt_m_9.map (fun e => (lw_tbl[e.2.2.2.2.2.2.2.1]?, lw_tbl[e.2.2.2.2.2.2.2.2.1]?, lw_tbl[e.2.2.2.2.2.2.2.2.2.2]?)) = mt_m_9.map (fun e => (some (.code e.1 e.2.1 e.2.2.1 e.2.2.2.1), some (if e.2.2.2.2.2.2.1 = true then .static e.1 else .instanceMethod e.1), some (.initialized e.1.cls))) := by rfl
set_option maxRecDepth 100000 in
theorem sm_mse_9 : mt_m_9.map (fun e => if e.2.2.2.2.2.2.1 = true ∨ (e.1.name == "<init>") = true then none else lw_tbl[e.2.2.2.2.2.2.2.2.2.1]?) = mt_m_9.map (fun e => if e.2.2.2.2.2.2.1 = true ∨ (e.1.name == "<init>") = true then none else some (.selects e.1.cls e.1 e.1)) := by decide +kernel
theorem sm_mpl_9 : mt_m_9.all (fun e => plainFor e.1 && (e.1.cls != "java/lang/invoke/MethodHandle") && (e.1.cls != "java/lang/invoke/VarHandle") && (e.1.cls == sm_on e.2.2.2.2.1) && decide ((parseMethodDescriptor e.1.desc).map (fun d => d.parameters.length) = some e.2.2.2.2.2.1)) = true := by decide +kernel
set_option maxRecDepth 100000 in
theorem sm_mok_10 : mt_m_10.map (fun e => (lw_tbl[e.2.2.2.2.2.2.2.1]?, lw_tbl[e.2.2.2.2.2.2.2.2.1]?, lw_tbl[e.2.2.2.2.2.2.2.2.2.2]?)) = mt_m_10.map (fun e => (some (.code e.1 e.2.1 e.2.2.1 e.2.2.2.1), some (if e.2.2.2.2.2.2.1 = true then .static e.1 else .instanceMethod e.1), some (.initialized e.1.cls))) := by rfl
set_option maxRecDepth 100000 in
theorem sm_mse_10 : mt_m_10.map (fun e => if e.2.2.2.2.2.2.1 = true ∨ (e.1.name == "<init>") = true then none else lw_tbl[e.2.2.2.2.2.2.2.2.2.1]?) = mt_m_10.map (fun e => if e.2.2.2.2.2.2.1 = true ∨ (e.1.name == "<init>") = true then none else some (.selects e.1.cls e.1 e.1)) := by decide +kernel
theorem sm_mpl_10 : mt_m_10.all (fun e => plainFor e.1 && (e.1.cls != "java/lang/invoke/MethodHandle") && (e.1.cls != "java/lang/invoke/VarHandle") && (e.1.cls == sm_on e.2.2.2.2.1) && decide ((parseMethodDescriptor e.1.desc).map (fun d => d.parameters.length) = some e.2.2.2.2.2.1)) = true := by decide +kernel
