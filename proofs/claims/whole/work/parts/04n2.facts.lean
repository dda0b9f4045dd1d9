def cvB (r : Rw) : Bool := bif r.1 == 90 then decide (r.2.2.1 < 245) && ((mix.getD r.2.2.1 (0, 0, 0, 0, 0)).2.2.1 == 1) else bif r.1 == 91 then decide (r.2.2.1 < 245) && ((mix.getD r.2.2.1 (0, 0, 0, 0, 0)).2.2.1 == 2) else true
theorem fdr_mem : ∀ {tab : List (Nat × Rw)} {pc : Nat} {r : Rw}, fdr tab pc = some r → (pc, r) ∈ tab
  | [], _, _, h => by cases h
  | (q, z) :: t, pc, r, h => by
    unfold fdr at h
    by_cases e : q = pc
    · subst e
      simp at h
      subst h
      exact List.mem_cons_self
    · have e2 : (q == pc) = false := by simp [e]
      rw [e2] at h
      exact List.mem_cons_of_mem _ (fdr_mem (tab := t) h)
def Rok (j pc : Nat) (r : Rw) : Prop := (∃ n, okB j pc r n = true) ∧ cvB r = true
theorem Rok_of {j : Nat} {tab : List (Nat × Rw)} {lx : List (Nat × Nat)} (h : tab.all (fun q => okB j q.1 q.2 (lxf lx q.1)) = true) (h2 : tab.all (fun q => cvB q.2) = true) (pc : Nat) (r : Rw) (hf : fdr tab pc = some r) : Rok j pc r := ⟨⟨_, List.all_eq_true.mp h _ (fdr_mem hf)⟩, List.all_eq_true.mp h2 _ (fdr_mem hf)⟩
set_option maxRecDepth 100000 in
theorem rok_0 : ∀ (k pc : Nat) (r : Rw), fdr (mtab_0 k) pc = some r → Rok (16 * 0 + k) pc r := by
  intro k pc r h
  match k, h with
  | 0, h => exact Rok_of ok_i_feed (by decide +kernel) pc r h
  | 1, h => exact Rok_of ok_i_putBytes (by decide +kernel) pc r h
  | 2, h => exact Rok_of ok_i_end (by decide +kernel) pc r h
  | 3, h => exact Rok_of ok_i_lake (by decide +kernel) pc r h
  | 4, h => exact Rok_of ok_i_openTape (by decide +kernel) pc r h
  | 5, h => exact Rok_of ok_i_fault (by decide +kernel) pc r h
  | 6, h => exact Rok_of ok_i_cell (by decide +kernel) pc r h
  | 7, h => exact Rok_of ok_i_now (by decide +kernel) pc r h
  | 8, h => exact Rok_of ok_i_count (by decide +kernel) pc r h
  | 9, h => exact Rok_of ok_i_greatestDivisor (by decide +kernel) pc r h
  | 10, h => exact Rok_of ok_i_go (by decide +kernel) pc r h
  | 11, h => exact Rok_of ok_i_bow (by decide +kernel) pc r h
  | 12, h => exact Rok_of ok_i_praise (by decide +kernel) pc r h
  | 13, h => exact Rok_of ok_i_swear (by decide +kernel) pc r h
  | 14, h => exact Rok_of ok_i_hours (by decide +kernel) pc r h
  | 15, h => exact Rok_of ok_i_drawn (by decide +kernel) pc r h
  | z + 16, h => cases h
set_option maxRecDepth 100000 in
theorem rok_1 : ∀ (k pc : Nat) (r : Rw), fdr (mtab_1 k) pc = some r → Rok (16 * 1 + k) pc r := by
  intro k pc r h
  match k, h with
  | 0, h => exact Rok_of ok_i_undo (by decide +kernel) pc r h
  | 1, h => exact Rok_of ok_i_way (by decide +kernel) pc r h
  | 2, h => exact Rok_of ok_i_canSetOut (by decide +kernel) pc r h
  | 3, h => exact Rok_of ok_i_wayAt (by decide +kernel) pc r h
  | 4, h => exact Rok_of ok_i_bows (by decide +kernel) pc r h
  | 5, h => exact Rok_of ok_i_firm (by decide +kernel) pc r h
  | 6, h => exact Rok_of ok_i_swears (by decide +kernel) pc r h
  | 7, h => exact Rok_of ok_i_falls (by decide +kernel) pc r h
  | 8, h => exact Rok_of ok_i_odds (by decide +kernel) pc r h
  | 9, h => exact Rok_of ok_i_stands (by decide +kernel) pc r h
  | 10, h => exact Rok_of ok_i_fair (by decide +kernel) pc r h
  | 11, h => exact Rok_of ok_i_swore (by decide +kernel) pc r h
  | 12, h => exact Rok_of ok_i_areTriples (by decide +kernel) pc r h
  | 13, h => exact Rok_of ok_i_explains (by decide +kernel) pc r h
  | 14, h => exact Rok_of ok_i_bestQuestion (by decide +kernel) pc r h
  | 15, h => exact Rok_of ok_i_mostAlike (by decide +kernel) pc r h
  | z + 16, h => cases h
set_option maxRecDepth 100000 in
theorem rok_2 : ∀ (k pc : Nat) (r : Rw), fdr (mtab_2 k) pc = some r → Rok (16 * 2 + k) pc r := by
  intro k pc r h
  match k, h with
  | 0, h => exact Rok_of ok_i_ask (by decide +kernel) pc r h
  | 1, h => exact Rok_of ok_i_book (by decide +kernel) pc r h
  | 2, h => exact Rok_of ok_i_noteJudged (by decide +kernel) pc r h
  | 3, h => exact Rok_of ok_i_told (by decide +kernel) pc r h
  | 4, h => exact Rok_of ok_i_sentence (by decide +kernel) pc r h
  | 5, h => exact Rok_of ok_i_said (by decide +kernel) pc r h
  | 6, h => exact Rok_of ok_i_image (by decide +kernel) pc r h
  | 7, h => exact Rok_of ok_i_restore (by decide +kernel) pc r h
  | 8, h => exact Rok_of ok_m_thrown (by decide +kernel) pc r h
  | 9, h => exact Rok_of ok_m_throwsIf (by decide +kernel) pc r h
  | 10, h => exact Rok_of ok_m_feed (by decide +kernel) pc r h
  | 11, h => exact Rok_of ok_m_four (by decide +kernel) pc r h
  | 12, h => exact Rok_of ok_m_end (by decide +kernel) pc r h
  | 13, h => exact Rok_of ok_m_taken (by decide +kernel) pc r h
  | 14, h => exact Rok_of ok_m_isIn (by decide +kernel) pc r h
  | 15, h => exact Rok_of ok_m_bitOf (by decide +kernel) pc r h
  | z + 16, h => cases h
set_option maxRecDepth 100000 in
theorem rok_3 : ∀ (k pc : Nat) (r : Rw), fdr (mtab_3 k) pc = some r → Rok (16 * 3 + k) pc r := by
  intro k pc r h
  match k, h with
  | 0, h => exact Rok_of ok_m_lesser (by decide +kernel) pc r h
  | 1, h => exact Rok_of ok_m_greater (by decide +kernel) pc r h
  | 2, h => exact Rok_of ok_m_absolute (by decide +kernel) pc r h
  | 3, h => exact Rok_of ok_m_octet (by decide +kernel) pc r h
  | 4, h => exact Rok_of ok_m_clears (by decide +kernel) pc r h
  | 5, h => exact Rok_of ok_m_freezes (by decide +kernel) pc r h
  | 6, h => exact Rok_of ok_m_peek (by decide +kernel) pc r h
  | 7, h => exact Rok_of ok_m_isSmall (by decide +kernel) pc r h
  | 8, h => exact Rok_of ok_m_isDigit (by decide +kernel) pc r h
  | 9, h => exact Rok_of ok_m_next (by decide +kernel) pc r h
  | 10, h => exact Rok_of ok_m_bad (by decide +kernel) pc r h
  | 11, h => exact Rok_of ok_m_isWord (by decide +kernel) pc r h
  | 12, h => exact Rok_of ok_m_isSign (by decide +kernel) pc r h
  | 13, h => exact Rok_of ok_m_sign (by decide +kernel) pc r h
  | 14, h => exact Rok_of ok_m_isName (by decide +kernel) pc r h
  | 15, h => exact Rok_of ok_m_takes (by decide +kernel) pc r h
  | z + 16, h => cases h
set_option maxRecDepth 100000 in
theorem rok_4 : ∀ (k pc : Nat) (r : Rw), fdr (mtab_4 k) pc = some r → Rok (16 * 4 + k) pc r := by
  intro k pc r h
  match k, h with
  | 0, h => exact Rok_of ok_m_puts (by decide +kernel) pc r h
  | 1, h => exact Rok_of ok_m_seek (by decide +kernel) pc r h
  | 2, h => exact Rok_of ok_m_looksAt (by decide +kernel) pc r h
  | 3, h => exact Rok_of ok_m_once (by decide +kernel) pc r h
  | 4, h => exact Rok_of ok_m_readLine (by decide +kernel) pc r h
  | 5, h => exact Rok_of ok_m_readLake (by decide +kernel) pc r h
  | 6, h => exact Rok_of ok_m_readIce (by decide +kernel) pc r h
  | 7, h => exact Rok_of ok_m_readPerson (by decide +kernel) pc r h
  | 8, h => exact Rok_of ok_m_lake (by decide +kernel) pc r h
  | 9, h => exact Rok_of ok_m_fault (by decide +kernel) pc r h
  | 10, h => exact Rok_of ok_m_isPerson (by decide +kernel) pc r h
  | 11, h => exact Rok_of ok_m_isCell (by decide +kernel) pc r h
  | 12, h => exact Rok_of ok_m_hasFallen (by decide +kernel) pc r h
  | 13, h => exact Rok_of ok_m_apart (by decide +kernel) pc r h
  | 14, h => exact Rok_of ok_m_personsOn (by decide +kernel) pc r h
  | 15, h => exact Rok_of ok_m_loadsOn (by decide +kernel) pc r h
  | z + 16, h => cases h
set_option maxRecDepth 100000 in
theorem rok_5 : ∀ (k pc : Nat) (r : Rw), fdr (mtab_5 k) pc = some r → Rok (16 * 5 + k) pc r := by
  intro k pc r h
  match k, h with
  | 0, h => exact Rok_of ok_m_beside (by decide +kernel) pc r h
  | 1, h => exact Rok_of ok_m_lacks (by decide +kernel) pc r h
  | 2, h => exact Rok_of ok_m_iceIfSworn (by decide +kernel) pc r h
  | 3, h => exact Rok_of ok_m_dangerOf (by decide +kernel) pc r h
  | 4, h => exact Rok_of ok_m_whyGo (by decide +kernel) pc r h
  | 5, h => exact Rok_of ok_m_sidesOf (by decide +kernel) pc r h
  | 6, h => exact Rok_of ok_m_allIce (by decide +kernel) pc r h
  | 7, h => exact Rok_of ok_m_person (by decide +kernel) pc r h
  | 8, h => exact Rok_of ok_m_cell (by decide +kernel) pc r h
  | 9, h => exact Rok_of ok_m_now (by decide +kernel) pc r h
  | 10, h => exact Rok_of ok_m_sinks (by decide +kernel) pc r h
  | 11, h => exact Rok_of ok_m_whyBow (by decide +kernel) pc r h
  | 12, h => exact Rok_of ok_m_bends (by decide +kernel) pc r h
  | 13, h => exact Rok_of ok_m_whyPraise (by decide +kernel) pc r h
  | 14, h => exact Rok_of ok_m_flatters (by decide +kernel) pc r h
  | 15, h => exact Rok_of ok_m_curses (by decide +kernel) pc r h
  | z + 16, h => cases h
set_option maxRecDepth 100000 in
theorem rok_6 : ∀ (k pc : Nat) (r : Rw), fdr (mtab_6 k) pc = some r → Rok (16 * 6 + k) pc r := by
  intro k pc r h
  match k, h with
  | 0, h => exact Rok_of ok_m_hour (by decide +kernel) pc r h
  | 1, h => exact Rok_of ok_m_goesOn (by decide +kernel) pc r h
  | 2, h => exact Rok_of ok_m_go (by decide +kernel) pc r h
  | 3, h => exact Rok_of ok_m_bow (by decide +kernel) pc r h
  | 4, h => exact Rok_of ok_m_praise (by decide +kernel) pc r h
  | 5, h => exact Rok_of ok_m_swear (by decide +kernel) pc r h
  | 6, h => exact Rok_of ok_m_hours (by decide +kernel) pc r h
  | 7, h => exact Rok_of ok_m_keep (by decide +kernel) pc r h
  | 8, h => exact Rok_of ok_m_undo (by decide +kernel) pc r h
  | 9, h => exact Rok_of ok_m_tries (by decide +kernel) pc r h
  | 10, h => exact Rok_of ok_m_back (by decide +kernel) pc r h
  | 11, h => exact Rok_of ok_m_isOpen (by decide +kernel) pc r h
  | 12, h => exact Rok_of ok_m_laysSteps (by decide +kernel) pc r h
  | 13, h => exact Rok_of ok_m_way (by decide +kernel) pc r h
  | 14, h => exact Rok_of ok_m_wayAt (by decide +kernel) pc r h
  | 15, h => exact Rok_of ok_m_bows (by decide +kernel) pc r h
  | z + 16, h => cases h
set_option maxRecDepth 100000 in
theorem rok_7 : ∀ (k pc : Nat) (r : Rw), fdr (mtab_7 k) pc = some r → Rok (16 * 7 + k) pc r := by
  intro k pc r h
  match k, h with
  | 0, h => exact Rok_of ok_m_firm (by decide +kernel) pc r h
  | 1, h => exact Rok_of ok_m_hoursTill (by decide +kernel) pc r h
  | 2, h => exact Rok_of ok_m_swears (by decide +kernel) pc r h
  | 3, h => exact Rok_of ok_m_falls (by decide +kernel) pc r h
  | 4, h => exact Rok_of ok_m_fair (by decide +kernel) pc r h
  | 5, h => exact Rok_of ok_m_isSwore (by decide +kernel) pc r h
  | 6, h => exact Rok_of ok_m_leftBy (by decide +kernel) pc r h
  | 7, h => exact Rok_of ok_m_swore (by decide +kernel) pc r h
  | 8, h => exact Rok_of ok_m_ask (by decide +kernel) pc r h
  | 9, h => exact Rok_of ok_m_stands (by decide +kernel) pc r h
  | 10, h => exact Rok_of ok_m_mean (by decide +kernel) pc r h
  | 11, h => exact Rok_of ok_m_lays (by decide +kernel) pc r h
  | 12, h => exact Rok_of ok_m_spells (by decide +kernel) pc r h
  | 13, h => exact Rok_of ok_m_says (by decide +kernel) pc r h
  | 14, h => exact Rok_of ok_m_digit (by decide +kernel) pc r h
  | 15, h => exact Rok_of ok_m_line (by decide +kernel) pc r h
  | z + 16, h => cases h
set_option maxRecDepth 100000 in
theorem rok_8 : ∀ (k pc : Nat) (r : Rw), fdr (mtab_8 k) pc = some r → Rok (16 * 8 + k) pc r := by
  intro k pc r h
  match k, h with
  | 0, h => exact Rok_of ok_m_byteAt (by decide +kernel) pc r h
  | 1, h => exact Rok_of ok_m_draw (by decide +kernel) pc r h
  | 2, h => exact Rok_of ok_m_drawPerson (by decide +kernel) pc r h
  | 3, h => exact Rok_of ok_m_draws (by decide +kernel) pc r h
  | 4, h => exact Rok_of ok_m_drawn (by decide +kernel) pc r h
  | 5, h => exact Rok_of ok_m_odds (by decide +kernel) pc r h
  | 6, h => exact Rok_of ok_m_bookLine (by decide +kernel) pc r h
  | 7, h => exact Rok_of ok_m_does (by decide +kernel) pc r h
  | 8, h => exact Rok_of ok_m_book (by decide +kernel) pc r h
  | 9, h => exact Rok_of ok_m_told (by decide +kernel) pc r h
  | 10, h => exact Rok_of ok_m_code (by decide +kernel) pc r h
  | 11, h => exact Rok_of ok_m_joins (by decide +kernel) pc r h
  | 12, h => exact Rok_of ok_m_nots (by decide +kernel) pc r h
  | 13, h => exact Rok_of ok_m_leafOf (by decide +kernel) pc r h
  | 14, h => exact Rok_of ok_m_operand (by decide +kernel) pc r h
  | 15, h => exact Rok_of ok_m_behind (by decide +kernel) pc r h
  | z + 16, h => cases h
set_option maxRecDepth 100000 in
theorem rok_9 : ∀ (k pc : Nat) (r : Rw), fdr (mtab_9 k) pc = some r → Rok (16 * 9 + k) pc r := by
  intro k pc r h
  match k, h with
  | 0, h => exact Rok_of ok_m_sentence (by decide +kernel) pc r h
  | 1, h => exact Rok_of ok_m_isLeaf (by decide +kernel) pc r h
  | 2, h => exact Rok_of ok_m_isSaid (by decide +kernel) pc r h
  | 3, h => exact Rok_of ok_m_said (by decide +kernel) pc r h
  | 4, h => exact Rok_of ok_m_image (by decide +kernel) pc r h
  | 5, h => exact Rok_of ok_m_restore (by decide +kernel) pc r h
  | 6, h => exact Rok_of ok_m_count (by decide +kernel) pc r h
  | 7, h => exact Rok_of ok_bk_readLines (by decide +kernel) pc r h
  | 8, h => exact Rok_of ok_bk_failBehindLast (by decide +kernel) pc r h
  | 9, h => exact Rok_of ok_bk_readLine (by decide +kernel) pc r h
  | 10, h => exact Rok_of ok_bk_liveIn (by decide +kernel) pc r h
  | 11, h => exact Rok_of ok_bk_liveLine (by decide +kernel) pc r h
  | 12, h => exact Rok_of ok_bk_reason (by decide +kernel) pc r h
  | 13, h => exact Rok_of ok_hy_clear (by decide +kernel) pc r h
  | 14, h => exact Rok_of ok_hy_keep (by decide +kernel) pc r h
  | 15, h => exact Rok_of ok_hy_takeBack (by decide +kernel) pc r h
  | z + 16, h => cases h
set_option maxRecDepth 100000 in
theorem rok_10 : ∀ (k pc : Nat) (r : Rw), fdr (mtab_10 k) pc = some r → Rok (16 * 10 + k) pc r := by
  intro k pc r h
  match k, h with
  | 0, h => exact Rok_of ok_kd_byCode (by decide +kernel) pc r h
  | 1, h => exact Rok_of ok_kd_side (by decide +kernel) pc r h
  | 2, h => exact Rok_of ok_lk_setUntold (by decide +kernel) pc r h
  | 3, h => exact Rok_of ok_lk_copyFrom (by decide +kernel) pc r h
  | 4, h => exact Rok_of ok_lk_isPerson (by decide +kernel) pc r h
  | 5, h => exact Rok_of ok_lk_isCell (by decide +kernel) pc r h
  | 6, h => exact Rok_of ok_lk_hasCell (by decide +kernel) pc r h
  | 7, h => exact Rok_of ok_lk_beside (by decide +kernel) pc r h
  | 8, h => exact Rok_of ok_lk_personCalled (by decide +kernel) pc r h
  | 9, h => exact Rok_of ok_lk_far (by decide +kernel) pc r h
  | 10, h => exact Rok_of ok_rd_open (by decide +kernel) pc r h
  | 11, h => exact Rok_of ok_rd_failed (by decide +kernel) pc r h
  | 12, h => exact Rok_of ok_rd_atEnd (by decide +kernel) pc r h
  | 13, h => exact Rok_of ok_rd_fail (by decide +kernel) pc r h
  | 14, h => exact Rok_of ok_rd_failTaken (by decide +kernel) pc r h
  | 15, h => exact Rok_of ok_rd_failAt (by decide +kernel) pc r h
  | z + 16, h => cases h
set_option maxRecDepth 100000 in
theorem rok_11 : ∀ (k pc : Nat) (r : Rw), fdr (mtab_11 k) pc = some r → Rok (16 * 11 + k) pc r := by
  intro k pc r h
  match k, h with
  | 0, h => exact Rok_of ok_rd_advance (by decide +kernel) pc r h
  | 1, h => exact Rok_of ok_rd_readRun (by decide +kernel) pc r h
  | 2, h => exact Rok_of ok_rd_take (by decide +kernel) pc r h
  | 3, h => exact Rok_of ok_rd_takeNumber (by decide +kernel) pc r h
  | 4, h => exact Rok_of ok_rd_takePerson (by decide +kernel) pc r h
  | 5, h => exact Rok_of ok_rd_takeNewName (by decide +kernel) pc r h
  | 6, h => exact Rok_of ok_sc_setUntold (by decide +kernel) pc r h
  | 7, h => exact Rok_of ok_sc_copyFrom (by decide +kernel) pc r h
  | 8, h => exact Rok_of ok_sn_isThere (by decide +kernel) pc r h
  | 9, h => exact Rok_of ok_sn_clear (by decide +kernel) pc r h
  | 10, h => exact Rok_of ok_sn_copyFrom (by decide +kernel) pc r h
  | 11, h => exact Rok_of ok_sn_read (by decide +kernel) pc r h
  | 12, h => exact Rok_of ok_sn_readSome (by decide +kernel) pc r h
  | 13, h => exact Rok_of ok_sn_readAll (by decide +kernel) pc r h
  | 14, h => exact Rok_of ok_sn_readOne (by decide +kernel) pc r h
  | 15, h => exact Rok_of ok_sn_beginsOne (by decide +kernel) pc r h
  | z + 16, h => cases h
set_option maxRecDepth 100000 in
theorem rok_12 : ∀ (k pc : Nat) (r : Rw), fdr (mtab_12 k) pc = some r → Rok (16 * 12 + k) pc r := by
  intro k pc r h
  match k, h with
  | 0, h => exact Rok_of ok_sn_takeSign (by decide +kernel) pc r h
  | 1, h => exact Rok_of ok_sn_add (by decide +kernel) pc r h
  | 2, h => exact Rok_of ok_sn_holdsOf (by decide +kernel) pc r h
  | 3, h => exact Rok_of ok_sn_partHolds (by decide +kernel) pc r h
  | 4, h => exact Rok_of ok_sn_measure (by decide +kernel) pc r h
  | 5, h => exact Rok_of ok_sn_compare (by decide +kernel) pc r h
  | 6, h => exact Rok_of ok_st_setUntold (by decide +kernel) pc r h
  | 7, h => exact Rok_of ok_st_copyFrom (by decide +kernel) pc r h
  | 8, h => exact Rok_of ok_st_isFallen (by decide +kernel) pc r h
  | 9, h => exact Rok_of ok_st_hoursLeft (by decide +kernel) pc r h
  | 10, h => exact Rok_of ok_st_loadOn (by decide +kernel) pc r h
  | 11, h => exact Rok_of ok_st_personsOn (by decide +kernel) pc r h
  | 12, h => exact Rok_of ok_st_loadWith (by decide +kernel) pc r h
  | 13, h => exact Rok_of ok_st_allLoads (by decide +kernel) pc r h
  | 14, h => exact Rok_of ok_st_farFromAll (by decide +kernel) pc r h
  | 15, h => exact Rok_of ok_st_allIce (by decide +kernel) pc r h
  | z + 16, h => cases h
set_option maxRecDepth 100000 in
theorem rok_13 : ∀ (k pc : Nat) (r : Rw), fdr (mtab_13 k) pc = some r → Rok (16 * 13 + k) pc r := by
  intro k pc r h
  match k, h with
  | 0, h => exact Rok_of ok_st_bareCells (by decide +kernel) pc r h
  | 1, h => exact Rok_of ok_st_openSides (by decide +kernel) pc r h
  | 2, h => exact Rok_of ok_st_iceIfSworn (by decide +kernel) pc r h
  | 3, h => exact Rok_of ok_st_dangerOf (by decide +kernel) pc r h
  | 4, h => exact Rok_of ok_st_whyNotGo (by decide +kernel) pc r h
  | 5, h => exact Rok_of ok_st_tryGo (by decide +kernel) pc r h
  | 6, h => exact Rok_of ok_st_whyNotBow (by decide +kernel) pc r h
  | 7, h => exact Rok_of ok_st_tryBow (by decide +kernel) pc r h
  | 8, h => exact Rok_of ok_st_whyNotPraise (by decide +kernel) pc r h
  | 9, h => exact Rok_of ok_st_tryPraise (by decide +kernel) pc r h
  | 10, h => exact Rok_of ok_st_thin (by decide +kernel) pc r h
  | 11, h => exact Rok_of ok_st_whyNotSwear (by decide +kernel) pc r h
  | 12, h => exact Rok_of ok_st_trySwear (by decide +kernel) pc r h
  | 13, h => exact Rok_of ok_st_breakRound (by decide +kernel) pc r h
  | 14, h => exact Rok_of ok_st_passHour (by decide +kernel) pc r h
  | 15, h => exact Rok_of ok_st_othersNear (by decide +kernel) pc r h
  | z + 16, h => cases h
set_option maxRecDepth 100000 in
theorem rok_14 : ∀ (k pc : Nat) (r : Rw), fdr (mtab_14 k) pc = some r → Rok (16 * 14 + k) pc r := by
  intro k pc r h
  match k, h with
  | 0, h => exact Rok_of ok_st_freeze (by decide +kernel) pc r h
  | 1, h => exact Rok_of ok_st_drawHour (by decide +kernel) pc r h
  | 2, h => exact Rok_of ok_st_drawAct (by decide +kernel) pc r h
  | 3, h => exact Rok_of ok_st_draw (by decide +kernel) pc r h
  | 4, h => exact Rok_of ok_tl_readLines (by decide +kernel) pc r h
  | 5, h => exact Rok_of ok_tl_readLine (by decide +kernel) pc r h
  | 6, h => exact Rok_of ok_tl_takeOnce (by decide +kernel) pc r h
  | 7, h => exact Rok_of ok_tl_readLake (by decide +kernel) pc r h
  | 8, h => exact Rok_of ok_tl_readIce (by decide +kernel) pc r h
  | 9, h => exact Rok_of ok_tl_takeCell (by decide +kernel) pc r h
  | 10, h => exact Rok_of ok_tl_readPerson (by decide +kernel) pc r h
  | 11, h => exact Rok_of ok_wy_stepAt (by decide +kernel) pc r h
  | 12, h => exact Rok_of ok_wy_fewestSteps (by decide +kernel) pc r h
  | 13, h => exact Rok_of ok_wy_measureFrom (by decide +kernel) pc r h
  | 14, h => exact Rok_of ok_wy_noteSides (by decide +kernel) pc r h
  | 15, h => exact Rok_of ok_wy_nearerSide (by decide +kernel) pc r h
  | z + 16, h => cases h
set_option maxRecDepth 100000 in
theorem rok_15 : ∀ (k pc : Nat) (r : Rw), fdr (mtab_15 k) pc = some r → Rok (16 * 15 + k) pc r := by
  intro k pc r h
  match k, h with
  | 0, h => exact Rok_of ok_wy_leastBows (by decide +kernel) pc r h
  | 1, h => exact Rok_of ok_wy_spreadBows (by decide +kernel) pc r h
  | 2, h => exact Rok_of ok_wy_thickest (by decide +kernel) pc r h
  | 3, h => exact Rok_of ok_wy_spreadThickness (by decide +kernel) pc r h
  | 4, h => exact Rok_of ok_ja_fill (by decide +kernel) pc r h
  | z + 5, h => cases h
theorem rok_all (j pc : Nat) (r : Rw) (h : fdr (mtab j) pc = some r) : Rok j pc r := by
  have e9 : ∀ t, j / 16 = t → 16 * t + j % 16 = j := fun t ht => by omega
  unfold mtab at h
  split at h
  · rename_i ht
    have := rok_0 _ pc r h
    rw [e9 _ ht] at this
    exact this
  · rename_i ht
    have := rok_1 _ pc r h
    rw [e9 _ ht] at this
    exact this
  · rename_i ht
    have := rok_2 _ pc r h
    rw [e9 _ ht] at this
    exact this
  · rename_i ht
    have := rok_3 _ pc r h
    rw [e9 _ ht] at this
    exact this
  · rename_i ht
    have := rok_4 _ pc r h
    rw [e9 _ ht] at this
    exact this
  · rename_i ht
    have := rok_5 _ pc r h
    rw [e9 _ ht] at this
    exact this
  · rename_i ht
    have := rok_6 _ pc r h
    rw [e9 _ ht] at this
    exact this
  · rename_i ht
    have := rok_7 _ pc r h
    rw [e9 _ ht] at this
    exact this
  · rename_i ht
    have := rok_8 _ pc r h
    rw [e9 _ ht] at this
    exact this
  · rename_i ht
    have := rok_9 _ pc r h
    rw [e9 _ ht] at this
    exact this
  · rename_i ht
    have := rok_10 _ pc r h
    rw [e9 _ ht] at this
    exact this
  · rename_i ht
    have := rok_11 _ pc r h
    rw [e9 _ ht] at this
    exact this
  · rename_i ht
    have := rok_12 _ pc r h
    rw [e9 _ ht] at this
    exact this
  · rename_i ht
    have := rok_13 _ pc r h
    rw [e9 _ ht] at this
    exact this
  · rename_i ht
    have := rok_14 _ pc r h
    rw [e9 _ ht] at this
    exact this
  · rename_i ht
    have := rok_15 _ pc r h
    rw [e9 _ ht] at this
    exact this
  · cases h
theorem wd_1 : Cond.native arraycopyName ∈ Tg := Tg_of (List.mem_of_getElem? (i := 735) (by decide +kernel)) (by decide +kernel)
theorem wd_2 : Cond.static arraycopyName ∈ Tg := Tg_of (List.mem_of_getElem? (i := 734) (by decide +kernel)) (by decide +kernel)
theorem wd_3 : Cond.initialized "java/lang/System" ∈ Tg := Tg_of (List.mem_of_getElem? (i := 125) (by decide +kernel)) (by decide +kernel)
theorem wd_4 : Cond.static Lib.Math.max.name ∈ Tg := Tg_of (List.mem_of_getElem? (i := 834) (by decide +kernel)) (by decide +kernel)
theorem wd_5 : Cond.static Lib.Math.min.name ∈ Tg := Tg_of (List.mem_of_getElem? (i := 600) (by decide +kernel)) (by decide +kernel)
theorem wd_6 : Cond.initialized "java/lang/Math" ∈ Tg := Tg_of (List.mem_of_getElem? (i := 123) (by decide +kernel)) (by decide +kernel)
theorem wd_7 : Cond.code Lib.Math.max.name Lib.Math.max.code 2 (some .int) ∈ Tg := Tg_of (List.mem_of_getElem? (i := 835) (by decide +kernel)) (by decide +kernel)
theorem wd_8 : Cond.code Lib.Math.min.name Lib.Math.min.code 2 (some .int) ∈ Tg := Tg_of (List.mem_of_getElem? (i := 601) (by decide +kernel)) (by decide +kernel)
theorem wo_1 : Cond.code yO cO 1 (some .int) ∈ Tg := Tg_of (List.mem_of_getElem? (i := 657) (by decide +kernel)) (by decide +kernel)
theorem wo_2 : Cond.fieldLink "java/lang/Enum" 7 "java/lang/Enum" "ordinal" "I" ∈ Tg := Tg_of (List.mem_of_getElem? (i := 2164) (by decide +kernel)) (by decide +kernel)
theorem wo_3 : Cond.sameMethod "IceManners$Kind" "java/lang/Enum" "ordinal" "()I" ∈ Tg := Tg_of (List.mem_of_getElem? (i := 653) (by decide +kernel)) (by decide +kernel)
theorem wo_4 : Cond.selects "IceManners$Kind" ⟨"IceManners$Kind", "ordinal", "()I"⟩ yO ∈ Tg := Tg_of (List.mem_of_getElem? (i := 655) (by decide +kernel)) (by decide +kernel)
theorem wo_5 : Cond.instanceMethod yO ∈ Tg := Tg_of (List.mem_of_getElem? (i := 656) (by decide +kernel)) (by decide +kernel)
theorem wo_6 : Cond.initialized "java/lang/Enum" ∈ Tg := Tg_of (List.mem_of_getElem? (i := 111) (by decide +kernel)) (by decide +kernel)
theorem ly_0 : ∀ w ∈ u_ws cR0 cT0 5, w ∈ Tg := by
  have h : (u_ws cR0 cT0 5) = ([461, 463, 465, 467, 469] : List Nat).filterMap (fun i => lw_tbl[i]?) := by decide +kernel
  have g : (u_ws cR0 cT0 5).all goodWord = true := by decide +kernel
  intro w hw
  refine Tg_of ?_ (List.all_eq_true.mp g w hw)
  rw [h] at hw
  obtain ⟨i, -, hi⟩ := List.mem_filterMap.mp hw
  exact List.mem_of_getElem? hi
theorem ly_1 : ∀ w ∈ u_ws cR1 cT1 3, w ∈ Tg := by
  have h : (u_ws cR1 cT1 3) = ([353, 355, 357] : List Nat).filterMap (fun i => lw_tbl[i]?) := by decide +kernel
  have g : (u_ws cR1 cT1 3).all goodWord = true := by decide +kernel
  intro w hw
  refine Tg_of ?_ (List.all_eq_true.mp g w hw)
  rw [h] at hw
  obtain ⟨i, -, hi⟩ := List.mem_filterMap.mp hw
  exact List.mem_of_getElem? hi
theorem ly_2 : ∀ w ∈ u_ws cR2 cT2 10, w ∈ Tg := by
  have h : (u_ws cR2 cT2 10) = ([199, 201, 203, 205, 207, 209, 211, 213, 215, 217] : List Nat).filterMap (fun i => lw_tbl[i]?) := by decide +kernel
  have g : (u_ws cR2 cT2 10).all goodWord = true := by decide +kernel
  intro w hw
  refine Tg_of ?_ (List.all_eq_true.mp g w hw)
  rw [h] at hw
  obtain ⟨i, -, hi⟩ := List.mem_filterMap.mp hw
  exact List.mem_of_getElem? hi
theorem ly_3 : ∀ w ∈ u_ws cR3 cT3 13, w ∈ Tg := by
  have h : (u_ws cR3 cT3 13) = ([386, 388, 390, 392, 394, 396, 398, 400, 402, 404, 406, 408, 410] : List Nat).filterMap (fun i => lw_tbl[i]?) := by decide +kernel
  have g : (u_ws cR3 cT3 13).all goodWord = true := by decide +kernel
  intro w hw
  refine Tg_of ?_ (List.all_eq_true.mp g w hw)
  rw [h] at hw
  obtain ⟨i, -, hi⟩ := List.mem_filterMap.mp hw
  exact List.mem_of_getElem? hi
theorem ly_4 : ∀ w ∈ u_ws cR4 cT4 5, w ∈ Tg := by
  have h : (u_ws cR4 cT4 5) = ([311, 313, 315, 317, 319] : List Nat).filterMap (fun i => lw_tbl[i]?) := by decide +kernel
  have g : (u_ws cR4 cT4 5).all goodWord = true := by decide +kernel
  intro w hw
  refine Tg_of ?_ (List.all_eq_true.mp g w hw)
  rw [h] at hw
  obtain ⟨i, -, hi⟩ := List.mem_filterMap.mp hw
  exact List.mem_of_getElem? hi
theorem ly_5 : ∀ w ∈ u_ws cR5 cT5 13, w ∈ Tg := by
  have h : (u_ws cR5 cT5 13) = ([268, 270, 272, 274, 276, 278, 280, 282, 284, 286, 288, 290, 292] : List Nat).filterMap (fun i => lw_tbl[i]?) := by decide +kernel
  have g : (u_ws cR5 cT5 13).all goodWord = true := by decide +kernel
  intro w hw
  refine Tg_of ?_ (List.all_eq_true.mp g w hw)
  rw [h] at hw
  obtain ⟨i, -, hi⟩ := List.mem_filterMap.mp hw
  exact List.mem_of_getElem? hi
theorem ly_6 : ∀ w ∈ u_ws cR6 cT6 9, w ∈ Tg := by
  have h : (u_ws cR6 cT6 9) = ([428, 430, 432, 434, 436, 438, 440, 442, 444] : List Nat).filterMap (fun i => lw_tbl[i]?) := by decide +kernel
  have g : (u_ws cR6 cT6 9).all goodWord = true := by decide +kernel
  intro w hw
  refine Tg_of ?_ (List.all_eq_true.mp g w hw)
  rw [h] at hw
  obtain ⟨i, -, hi⟩ := List.mem_filterMap.mp hw
  exact List.mem_of_getElem? hi
theorem ly_7 : ∀ w ∈ u_ws cR7 cT7 4, w ∈ Tg := by
  have h : (u_ws cR7 cT7 4) = ([482, 484, 486, 488] : List Nat).filterMap (fun i => lw_tbl[i]?) := by decide +kernel
  have g : (u_ws cR7 cT7 4).all goodWord = true := by decide +kernel
  intro w hw
  refine Tg_of ?_ (List.all_eq_true.mp g w hw)
  rw [h] at hw
  obtain ⟨i, -, hi⟩ := List.mem_filterMap.mp hw
  exact List.mem_of_getElem? hi
theorem ly_8 : ∀ w ∈ u_ws cR8 cT8 3, w ∈ Tg := by
  have h : (u_ws cR8 cT8 3) = ([330, 332, 334] : List Nat).filterMap (fun i => lw_tbl[i]?) := by decide +kernel
  have g : (u_ws cR8 cT8 3).all goodWord = true := by decide +kernel
  intro w hw
  refine Tg_of ?_ (List.all_eq_true.mp g w hw)
  rw [h] at hw
  obtain ⟨i, -, hi⟩ := List.mem_filterMap.mp hw
  exact List.mem_of_getElem? hi
theorem ly_9 : ∀ w ∈ u_ws cR9 cT9 17, w ∈ Tg := by
  have h : (u_ws cR9 cT9 17) = ([540, 542, 544, 546, 548, 550, 552, 554, 556, 558, 560, 562, 564, 566, 568, 570, 572] : List Nat).filterMap (fun i => lw_tbl[i]?) := by decide +kernel
  have g : (u_ws cR9 cT9 17).all goodWord = true := by decide +kernel
  intro w hw
  refine Tg_of ?_ (List.all_eq_true.mp g w hw)
  rw [h] at hw
  obtain ⟨i, -, hi⟩ := List.mem_filterMap.mp hw
  exact List.mem_of_getElem? hi
theorem ly_10 : ∀ w ∈ u_ws cR10 cT10 49, w ∈ Tg := by
  have h : (u_ws cR10 cT10 49) = ([1617, 1619, 1621, 1623, 1625, 1627, 1629, 1631, 1633, 1635, 1637, 1639, 1641, 1643, 1645, 1647, 1649, 1651, 1653, 1655, 1657, 1659, 1661, 1663, 1665, 1667, 1669, 1671, 1673, 1675, 1677, 1679, 1681, 1683, 1685, 1687, 1689, 1691, 1693, 1695, 1697, 1699, 1701, 1703, 1705, 1707, 1709, 1711, 1713] : List Nat).filterMap (fun i => lw_tbl[i]?) := by decide +kernel
  have g : (u_ws cR10 cT10 49).all goodWord = true := by decide +kernel
  intro w hw
  refine Tg_of ?_ (List.all_eq_true.mp g w hw)
  rw [h] at hw
  obtain ⟨i, -, hi⟩ := List.mem_filterMap.mp hw
  exact List.mem_of_getElem? hi
theorem Wds_ok : Wds := by
  refine ⟨fun ci q h => ?_, wd_1, wd_2, wd_3, wd_4, wd_5, wd_6, wd_7, wd_8⟩
  match ci, h with
  | 0, h => cases h; exact ly_0
  | 1, h => cases h; exact ly_1
  | 2, h => cases h; exact ly_2
  | 3, h => cases h; exact ly_3
  | 4, h => cases h; exact ly_4
  | 5, h => cases h; exact ly_5
  | 6, h => cases h; exact ly_6
  | 7, h => cases h; exact ly_7
  | 8, h => cases h; exact ly_8
  | 9, h => cases h; exact ly_9
  | 10, h => cases h; exact ly_10
  | k + 11, h => simp [cls] at h
theorem WdO_ok : WdO := ⟨wo_1, wo_2, wo_3, wo_4, wo_5, wo_6⟩
theorem mok_sp (x : Nat) (hx : x < 245) : Mok x ∧ ((mix.getD x (0, 0, 0, 0, 0)).2.2.1 = 1 → Cond.instanceMethod (mY x) ∈ Tg ∧ Cond.selects (mY x).cls (mY x) (mY x) ∈ Tg) ∧ (¬ (mix.getD x (0, 0, 0, 0, 0)).2.2.1 = 1 → Cond.static (mY x) ∈ Tg) := by
  have h := mok_all x hx
  unfold mokB at h
  simp only [Bool.and_eq_true, decide_eq_true_eq] at h
  obtain ⟨⟨⟨⟨⟨h1, h3⟩, h4⟩, h5⟩, h6⟩, h7⟩ := h
  refine ⟨⟨h1, cw_all x hx, lkB_in h3, h4, h5, h6⟩, fun e => ?_, fun e => ?_⟩
  · rw [e] at h7
    have h7 := Bool.and_eq_true_iff.mp h7
    exact ⟨lkB_in h7.1, lkB_in h7.2⟩
  · have e2 : ((mix.getD x (0, 0, 0, 0, 0)).2.2.1 == 1) = false := by simpa using e
    rw [e2] at h7
    exact lkB_in h7
theorem sem_ok (l : Launch) (D : va_G) (tA : Nat → ClassId) (ρ : Nat → Nat) : Cl (sem l D tA ρ) := by
  refine sem_cl Wds_ok WdO_ok (fun j pc r h => (rok_all j pc r h).1) (fun j pc i x ex h => ?_) (fun j pc i x ex h => ?_)
  · have h9 := (rok_all j pc _ h).2
    have h9 : (decide (x < 245) && ((mix.getD x (0, 0, 0, 0, 0)).2.2.1 == 1)) = true := h9
    simp only [Bool.and_eq_true, decide_eq_true_eq, beq_iff_eq] at h9
    have h8 := mok_sp x h9.1
    exact ⟨h8.1, h8.2.1 h9.2⟩
  · have h9 := (rok_all j pc _ h).2
    have h9 : (decide (x < 245) && ((mix.getD x (0, 0, 0, 0, 0)).2.2.1 == 2)) = true := h9
    simp only [Bool.and_eq_true, decide_eq_true_eq, beq_iff_eq] at h9
    have h8 := mok_sp x h9.1
    exact ⟨h8.1, h8.2.2 (by rw [h9.2]; decide)⟩
/-- a contract of the small machine is one of the machine -/
theorem Wn_met {l : Launch} {D : va_G} {tA : Nat → ClassId} {ρ : Nat → Nat} {d j : Nat} {Q : Po} {M : Mm} {As : List Value} (sz : Nat) (hj : j < 245) (hc : ct As ≤ mL j) (h : Wn d j Q (0, lv_args 0 As, [], M)) :
    Met l (mY j) (mW j) (rmd d) (Ps D tA ρ M sz As) (Qs D tA ρ Q (va_A (wl ρ tA M) sz)) 0 0 (va_A (wl ρ tA M) sz) := sem_met sz (mok_sp j hj).1 hc (h _ (sem_ok l D tA ρ))
