/-! PURE LAYER: tokens -/
def cA (S : CS) (tk sa pl nu : Int32) (cd : Nat → Int32) (cl op ft : Int32) : CS := cx_set_r_fault (cx_set_r_open (cx_set_r_codeLength (cx_set_r_code (cx_set_r_number (cx_set_r_place (cx_set_r_start (cx_set_r_token S tk) sa) pl) nu) cd) cl) op) ft
theorem cA_token (S : CS) (tk sa pl nu : Int32) (cd : Nat → Int32) (cl op ft : Int32) : cx_r_token (cA S tk sa pl nu cd cl op ft) = tk := by
  simp only [cx_r_token, cA, cx_set_r_token, cx_set_r_start, cx_set_r_place, cx_set_r_number, cx_set_r_code, cx_set_r_codeLength, cx_set_r_open, cx_set_r_fault]
theorem cA_s_token (S : CS) (tk sa pl nu : Int32) (cd : Nat → Int32) (cl op ft : Int32) (z : Int32) : cx_set_r_token (cA S tk sa pl nu cd cl op ft) z = cA S z sa pl nu cd cl op ft := by
  simp only [cA, cx_set_r_token, cx_set_r_start, cx_set_r_place, cx_set_r_number, cx_set_r_code, cx_set_r_codeLength, cx_set_r_open, cx_set_r_fault]
theorem cA_start (S : CS) (tk sa pl nu : Int32) (cd : Nat → Int32) (cl op ft : Int32) : cx_r_start (cA S tk sa pl nu cd cl op ft) = sa := by
  simp only [cx_r_start, cA, cx_set_r_token, cx_set_r_start, cx_set_r_place, cx_set_r_number, cx_set_r_code, cx_set_r_codeLength, cx_set_r_open, cx_set_r_fault]
theorem cA_s_start (S : CS) (tk sa pl nu : Int32) (cd : Nat → Int32) (cl op ft : Int32) (z : Int32) : cx_set_r_start (cA S tk sa pl nu cd cl op ft) z = cA S tk z pl nu cd cl op ft := by
  simp only [cA, cx_set_r_token, cx_set_r_start, cx_set_r_place, cx_set_r_number, cx_set_r_code, cx_set_r_codeLength, cx_set_r_open, cx_set_r_fault]
theorem cA_place (S : CS) (tk sa pl nu : Int32) (cd : Nat → Int32) (cl op ft : Int32) : cx_r_place (cA S tk sa pl nu cd cl op ft) = pl := by
  simp only [cx_r_place, cA, cx_set_r_token, cx_set_r_start, cx_set_r_place, cx_set_r_number, cx_set_r_code, cx_set_r_codeLength, cx_set_r_open, cx_set_r_fault]
theorem cA_s_place (S : CS) (tk sa pl nu : Int32) (cd : Nat → Int32) (cl op ft : Int32) (z : Int32) : cx_set_r_place (cA S tk sa pl nu cd cl op ft) z = cA S tk sa z nu cd cl op ft := by
  simp only [cA, cx_set_r_token, cx_set_r_start, cx_set_r_place, cx_set_r_number, cx_set_r_code, cx_set_r_codeLength, cx_set_r_open, cx_set_r_fault]
theorem cA_number (S : CS) (tk sa pl nu : Int32) (cd : Nat → Int32) (cl op ft : Int32) : cx_r_number (cA S tk sa pl nu cd cl op ft) = nu := by
  simp only [cx_r_number, cA, cx_set_r_token, cx_set_r_start, cx_set_r_place, cx_set_r_number, cx_set_r_code, cx_set_r_codeLength, cx_set_r_open, cx_set_r_fault]
theorem cA_s_number (S : CS) (tk sa pl nu : Int32) (cd : Nat → Int32) (cl op ft : Int32) (z : Int32) : cx_set_r_number (cA S tk sa pl nu cd cl op ft) z = cA S tk sa pl z cd cl op ft := by
  simp only [cA, cx_set_r_token, cx_set_r_start, cx_set_r_place, cx_set_r_number, cx_set_r_code, cx_set_r_codeLength, cx_set_r_open, cx_set_r_fault]
theorem cA_code (S : CS) (tk sa pl nu : Int32) (cd : Nat → Int32) (cl op ft : Int32) : cx_r_code (cA S tk sa pl nu cd cl op ft) = cd := by
  simp only [cx_r_code, cA, cx_set_r_token, cx_set_r_start, cx_set_r_place, cx_set_r_number, cx_set_r_code, cx_set_r_codeLength, cx_set_r_open, cx_set_r_fault]
theorem cA_s_code (S : CS) (tk sa pl nu : Int32) (cd : Nat → Int32) (cl op ft : Int32) (z : Nat → Int32) : cx_set_r_code (cA S tk sa pl nu cd cl op ft) z = cA S tk sa pl nu z cl op ft := by
  simp only [cA, cx_set_r_token, cx_set_r_start, cx_set_r_place, cx_set_r_number, cx_set_r_code, cx_set_r_codeLength, cx_set_r_open, cx_set_r_fault]
theorem cA_codeLength (S : CS) (tk sa pl nu : Int32) (cd : Nat → Int32) (cl op ft : Int32) : cx_r_codeLength (cA S tk sa pl nu cd cl op ft) = cl := by
  simp only [cx_r_codeLength, cA, cx_set_r_token, cx_set_r_start, cx_set_r_place, cx_set_r_number, cx_set_r_code, cx_set_r_codeLength, cx_set_r_open, cx_set_r_fault]
theorem cA_s_codeLength (S : CS) (tk sa pl nu : Int32) (cd : Nat → Int32) (cl op ft : Int32) (z : Int32) : cx_set_r_codeLength (cA S tk sa pl nu cd cl op ft) z = cA S tk sa pl nu cd z op ft := by
  simp only [cA, cx_set_r_token, cx_set_r_start, cx_set_r_place, cx_set_r_number, cx_set_r_code, cx_set_r_codeLength, cx_set_r_open, cx_set_r_fault]
theorem cA_open (S : CS) (tk sa pl nu : Int32) (cd : Nat → Int32) (cl op ft : Int32) : cx_r_open (cA S tk sa pl nu cd cl op ft) = op := by
  simp only [cx_r_open, cA, cx_set_r_token, cx_set_r_start, cx_set_r_place, cx_set_r_number, cx_set_r_code, cx_set_r_codeLength, cx_set_r_open, cx_set_r_fault]
theorem cA_s_open (S : CS) (tk sa pl nu : Int32) (cd : Nat → Int32) (cl op ft : Int32) (z : Int32) : cx_set_r_open (cA S tk sa pl nu cd cl op ft) z = cA S tk sa pl nu cd cl z ft := by
  simp only [cA, cx_set_r_token, cx_set_r_start, cx_set_r_place, cx_set_r_number, cx_set_r_code, cx_set_r_codeLength, cx_set_r_open, cx_set_r_fault]
theorem cA_fault (S : CS) (tk sa pl nu : Int32) (cd : Nat → Int32) (cl op ft : Int32) : cx_r_fault (cA S tk sa pl nu cd cl op ft) = ft := by
  simp only [cx_r_fault, cA, cx_set_r_token, cx_set_r_start, cx_set_r_place, cx_set_r_number, cx_set_r_code, cx_set_r_codeLength, cx_set_r_open, cx_set_r_fault]
theorem cA_s_fault (S : CS) (tk sa pl nu : Int32) (cd : Nat → Int32) (cl op ft : Int32) (z : Int32) : cx_set_r_fault (cA S tk sa pl nu cd cl op ft) z = cA S tk sa pl nu cd cl op z := by
  simp only [cA, cx_set_r_token, cx_set_r_start, cx_set_r_place, cx_set_r_number, cx_set_r_code, cx_set_r_codeLength, cx_set_r_open, cx_set_r_fault]
theorem cA_length (S : CS) (tk sa pl nu : Int32) (cd : Nat → Int32) (cl op ft : Int32) : cx_r_length (cA S tk sa pl nu cd cl op ft) = cx_r_length S := by
  simp only [cx_r_length, cA, cx_set_r_token, cx_set_r_start, cx_set_r_place, cx_set_r_number, cx_set_r_code, cx_set_r_codeLength, cx_set_r_open, cx_set_r_fault]
theorem cA_tape (S : CS) (tk sa pl nu : Int32) (cd : Nat → Int32) (cl op ft : Int32) : cx_r_tape (cA S tk sa pl nu cd cl op ft) = cx_r_tape S := by
  simp only [cx_r_tape, cA, cx_set_r_token, cx_set_r_start, cx_set_r_place, cx_set_r_number, cx_set_r_code, cx_set_r_codeLength, cx_set_r_open, cx_set_r_fault]
theorem cA_law (S : CS) (tk sa pl nu : Int32) (cd : Nat → Int32) (cl op ft : Int32) : cx_r_law (cA S tk sa pl nu cd cl op ft) = cx_r_law S := by
  simp only [cx_r_law, cA, cx_set_r_token, cx_set_r_start, cx_set_r_place, cx_set_r_number, cx_set_r_code, cx_set_r_codeLength, cx_set_r_open, cx_set_r_fault]
theorem cA_clauses (S : CS) (tk sa pl nu : Int32) (cd : Nat → Int32) (cl op ft : Int32) : cx_r_clauses (cA S tk sa pl nu cd cl op ft) = cx_r_clauses S := by
  simp only [cx_r_clauses, cA, cx_set_r_token, cx_set_r_start, cx_set_r_place, cx_set_r_number, cx_set_r_code, cx_set_r_codeLength, cx_set_r_open, cx_set_r_fault]
theorem cA_bounds (S : CS) (tk sa pl nu : Int32) (cd : Nat → Int32) (cl op ft : Int32) : cx_r_bounds (cA S tk sa pl nu cd cl op ft) = cx_r_bounds S := by
  simp only [cx_r_bounds, cA, cx_set_r_token, cx_set_r_start, cx_set_r_place, cx_set_r_number, cx_set_r_code, cx_set_r_codeLength, cx_set_r_open, cx_set_r_fault]
theorem cA_clauseCount (S : CS) (tk sa pl nu : Int32) (cd : Nat → Int32) (cl op ft : Int32) : cx_r_clauseCount (cA S tk sa pl nu cd cl op ft) = cx_r_clauseCount S := by
  simp only [cx_r_clauseCount, cA, cx_set_r_token, cx_set_r_start, cx_set_r_place, cx_set_r_number, cx_set_r_code, cx_set_r_codeLength, cx_set_r_open, cx_set_r_fault]
theorem cA_id (S : CS) : cA S (cx_r_token S) (cx_r_start S) (cx_r_place S) (cx_r_number S) (cx_r_code S) (cx_r_codeLength S) (cx_r_open S) (cx_r_fault S) = S := by
  simp only [cx_r_token, cx_r_start, cx_r_place, cx_r_number, cx_r_code, cx_r_codeLength, cx_r_open, cx_r_fault, cA, cx_set_r_token, cx_set_r_start, cx_set_r_place, cx_set_r_number, cx_set_r_code, cx_set_r_codeLength, cx_set_r_open, cx_set_r_fault]
theorem cA_out (S : CS) (tk sa pl nu : Int32) (cd : Nat → Int32) (cl op ft : Int32) : (cA S tk sa pl nu cd cl op ft).1 = S.1 ∧ (cA S tk sa pl nu cd cl op ft).2.1 = S.2.1 ∧ (cA S tk sa pl nu cd cl op ft).2.2.2 = S.2.2.2 := by
  refine ⟨?_, ?_, ?_⟩ <;> simp only [cA, cx_set_r_token, cx_set_r_start, cx_set_r_place, cx_set_r_number, cx_set_r_code, cx_set_r_codeLength, cx_set_r_open, cx_set_r_fault]
def mA (S : MS) (aa pl tk nu : Int32) (wd : Int64) (tx : Nat → Int32) (wr : Int32) (pi : Nat → Int32) (pd op iw : Int32) : MS := ms_set_isWhole (ms_set_opens (ms_set_piled (ms_set_pile (ms_set_written (ms_set_texts (ms_set_word (ms_set_number (ms_set_token (ms_set_place (ms_set_at S aa) pl) tk) nu) wd) tx) wr) pi) pd) op) iw
theorem mA_at (S : MS) (aa pl tk nu : Int32) (wd : Int64) (tx : Nat → Int32) (wr : Int32) (pi : Nat → Int32) (pd op iw : Int32) : ms_at (mA S aa pl tk nu wd tx wr pi pd op iw) = aa := by
  simp only [ms_at, mA, ms_set_at, ms_set_place, ms_set_token, ms_set_number, ms_set_word, ms_set_texts, ms_set_written, ms_set_pile, ms_set_piled, ms_set_opens, ms_set_isWhole]
theorem mA_s_at (S : MS) (aa pl tk nu : Int32) (wd : Int64) (tx : Nat → Int32) (wr : Int32) (pi : Nat → Int32) (pd op iw : Int32) (z : Int32) : ms_set_at (mA S aa pl tk nu wd tx wr pi pd op iw) z = mA S z pl tk nu wd tx wr pi pd op iw := by
  simp only [mA, ms_set_at, ms_set_place, ms_set_token, ms_set_number, ms_set_word, ms_set_texts, ms_set_written, ms_set_pile, ms_set_piled, ms_set_opens, ms_set_isWhole]
theorem mA_place (S : MS) (aa pl tk nu : Int32) (wd : Int64) (tx : Nat → Int32) (wr : Int32) (pi : Nat → Int32) (pd op iw : Int32) : ms_place (mA S aa pl tk nu wd tx wr pi pd op iw) = pl := by
  simp only [ms_place, mA, ms_set_at, ms_set_place, ms_set_token, ms_set_number, ms_set_word, ms_set_texts, ms_set_written, ms_set_pile, ms_set_piled, ms_set_opens, ms_set_isWhole]
theorem mA_s_place (S : MS) (aa pl tk nu : Int32) (wd : Int64) (tx : Nat → Int32) (wr : Int32) (pi : Nat → Int32) (pd op iw : Int32) (z : Int32) : ms_set_place (mA S aa pl tk nu wd tx wr pi pd op iw) z = mA S aa z tk nu wd tx wr pi pd op iw := by
  simp only [mA, ms_set_at, ms_set_place, ms_set_token, ms_set_number, ms_set_word, ms_set_texts, ms_set_written, ms_set_pile, ms_set_piled, ms_set_opens, ms_set_isWhole]
theorem mA_token (S : MS) (aa pl tk nu : Int32) (wd : Int64) (tx : Nat → Int32) (wr : Int32) (pi : Nat → Int32) (pd op iw : Int32) : ms_token (mA S aa pl tk nu wd tx wr pi pd op iw) = tk := by
  simp only [ms_token, mA, ms_set_at, ms_set_place, ms_set_token, ms_set_number, ms_set_word, ms_set_texts, ms_set_written, ms_set_pile, ms_set_piled, ms_set_opens, ms_set_isWhole]
theorem mA_s_token (S : MS) (aa pl tk nu : Int32) (wd : Int64) (tx : Nat → Int32) (wr : Int32) (pi : Nat → Int32) (pd op iw : Int32) (z : Int32) : ms_set_token (mA S aa pl tk nu wd tx wr pi pd op iw) z = mA S aa pl z nu wd tx wr pi pd op iw := by
  simp only [mA, ms_set_at, ms_set_place, ms_set_token, ms_set_number, ms_set_word, ms_set_texts, ms_set_written, ms_set_pile, ms_set_piled, ms_set_opens, ms_set_isWhole]
theorem mA_number (S : MS) (aa pl tk nu : Int32) (wd : Int64) (tx : Nat → Int32) (wr : Int32) (pi : Nat → Int32) (pd op iw : Int32) : ms_number (mA S aa pl tk nu wd tx wr pi pd op iw) = nu := by
  simp only [ms_number, mA, ms_set_at, ms_set_place, ms_set_token, ms_set_number, ms_set_word, ms_set_texts, ms_set_written, ms_set_pile, ms_set_piled, ms_set_opens, ms_set_isWhole]
theorem mA_s_number (S : MS) (aa pl tk nu : Int32) (wd : Int64) (tx : Nat → Int32) (wr : Int32) (pi : Nat → Int32) (pd op iw : Int32) (z : Int32) : ms_set_number (mA S aa pl tk nu wd tx wr pi pd op iw) z = mA S aa pl tk z wd tx wr pi pd op iw := by
  simp only [mA, ms_set_at, ms_set_place, ms_set_token, ms_set_number, ms_set_word, ms_set_texts, ms_set_written, ms_set_pile, ms_set_piled, ms_set_opens, ms_set_isWhole]
theorem mA_word (S : MS) (aa pl tk nu : Int32) (wd : Int64) (tx : Nat → Int32) (wr : Int32) (pi : Nat → Int32) (pd op iw : Int32) : ms_word (mA S aa pl tk nu wd tx wr pi pd op iw) = wd := by
  simp only [ms_word, mA, ms_set_at, ms_set_place, ms_set_token, ms_set_number, ms_set_word, ms_set_texts, ms_set_written, ms_set_pile, ms_set_piled, ms_set_opens, ms_set_isWhole]
theorem mA_s_word (S : MS) (aa pl tk nu : Int32) (wd : Int64) (tx : Nat → Int32) (wr : Int32) (pi : Nat → Int32) (pd op iw : Int32) (z : Int64) : ms_set_word (mA S aa pl tk nu wd tx wr pi pd op iw) z = mA S aa pl tk nu z tx wr pi pd op iw := by
  simp only [mA, ms_set_at, ms_set_place, ms_set_token, ms_set_number, ms_set_word, ms_set_texts, ms_set_written, ms_set_pile, ms_set_piled, ms_set_opens, ms_set_isWhole]
theorem mA_texts (S : MS) (aa pl tk nu : Int32) (wd : Int64) (tx : Nat → Int32) (wr : Int32) (pi : Nat → Int32) (pd op iw : Int32) : ms_texts (mA S aa pl tk nu wd tx wr pi pd op iw) = tx := by
  simp only [ms_texts, mA, ms_set_at, ms_set_place, ms_set_token, ms_set_number, ms_set_word, ms_set_texts, ms_set_written, ms_set_pile, ms_set_piled, ms_set_opens, ms_set_isWhole]
theorem mA_s_texts (S : MS) (aa pl tk nu : Int32) (wd : Int64) (tx : Nat → Int32) (wr : Int32) (pi : Nat → Int32) (pd op iw : Int32) (z : Nat → Int32) : ms_set_texts (mA S aa pl tk nu wd tx wr pi pd op iw) z = mA S aa pl tk nu wd z wr pi pd op iw := by
  simp only [mA, ms_set_at, ms_set_place, ms_set_token, ms_set_number, ms_set_word, ms_set_texts, ms_set_written, ms_set_pile, ms_set_piled, ms_set_opens, ms_set_isWhole]
theorem mA_written (S : MS) (aa pl tk nu : Int32) (wd : Int64) (tx : Nat → Int32) (wr : Int32) (pi : Nat → Int32) (pd op iw : Int32) : ms_written (mA S aa pl tk nu wd tx wr pi pd op iw) = wr := by
  simp only [ms_written, mA, ms_set_at, ms_set_place, ms_set_token, ms_set_number, ms_set_word, ms_set_texts, ms_set_written, ms_set_pile, ms_set_piled, ms_set_opens, ms_set_isWhole]
theorem mA_s_written (S : MS) (aa pl tk nu : Int32) (wd : Int64) (tx : Nat → Int32) (wr : Int32) (pi : Nat → Int32) (pd op iw : Int32) (z : Int32) : ms_set_written (mA S aa pl tk nu wd tx wr pi pd op iw) z = mA S aa pl tk nu wd tx z pi pd op iw := by
  simp only [mA, ms_set_at, ms_set_place, ms_set_token, ms_set_number, ms_set_word, ms_set_texts, ms_set_written, ms_set_pile, ms_set_piled, ms_set_opens, ms_set_isWhole]
theorem mA_pile (S : MS) (aa pl tk nu : Int32) (wd : Int64) (tx : Nat → Int32) (wr : Int32) (pi : Nat → Int32) (pd op iw : Int32) : ms_pile (mA S aa pl tk nu wd tx wr pi pd op iw) = pi := by
  simp only [ms_pile, mA, ms_set_at, ms_set_place, ms_set_token, ms_set_number, ms_set_word, ms_set_texts, ms_set_written, ms_set_pile, ms_set_piled, ms_set_opens, ms_set_isWhole]
theorem mA_s_pile (S : MS) (aa pl tk nu : Int32) (wd : Int64) (tx : Nat → Int32) (wr : Int32) (pi : Nat → Int32) (pd op iw : Int32) (z : Nat → Int32) : ms_set_pile (mA S aa pl tk nu wd tx wr pi pd op iw) z = mA S aa pl tk nu wd tx wr z pd op iw := by
  simp only [mA, ms_set_at, ms_set_place, ms_set_token, ms_set_number, ms_set_word, ms_set_texts, ms_set_written, ms_set_pile, ms_set_piled, ms_set_opens, ms_set_isWhole]
theorem mA_piled (S : MS) (aa pl tk nu : Int32) (wd : Int64) (tx : Nat → Int32) (wr : Int32) (pi : Nat → Int32) (pd op iw : Int32) : ms_piled (mA S aa pl tk nu wd tx wr pi pd op iw) = pd := by
  simp only [ms_piled, mA, ms_set_at, ms_set_place, ms_set_token, ms_set_number, ms_set_word, ms_set_texts, ms_set_written, ms_set_pile, ms_set_piled, ms_set_opens, ms_set_isWhole]
theorem mA_s_piled (S : MS) (aa pl tk nu : Int32) (wd : Int64) (tx : Nat → Int32) (wr : Int32) (pi : Nat → Int32) (pd op iw : Int32) (z : Int32) : ms_set_piled (mA S aa pl tk nu wd tx wr pi pd op iw) z = mA S aa pl tk nu wd tx wr pi z op iw := by
  simp only [mA, ms_set_at, ms_set_place, ms_set_token, ms_set_number, ms_set_word, ms_set_texts, ms_set_written, ms_set_pile, ms_set_piled, ms_set_opens, ms_set_isWhole]
theorem mA_opens (S : MS) (aa pl tk nu : Int32) (wd : Int64) (tx : Nat → Int32) (wr : Int32) (pi : Nat → Int32) (pd op iw : Int32) : ms_opens (mA S aa pl tk nu wd tx wr pi pd op iw) = op := by
  simp only [ms_opens, mA, ms_set_at, ms_set_place, ms_set_token, ms_set_number, ms_set_word, ms_set_texts, ms_set_written, ms_set_pile, ms_set_piled, ms_set_opens, ms_set_isWhole]
theorem mA_s_opens (S : MS) (aa pl tk nu : Int32) (wd : Int64) (tx : Nat → Int32) (wr : Int32) (pi : Nat → Int32) (pd op iw : Int32) (z : Int32) : ms_set_opens (mA S aa pl tk nu wd tx wr pi pd op iw) z = mA S aa pl tk nu wd tx wr pi pd z iw := by
  simp only [mA, ms_set_at, ms_set_place, ms_set_token, ms_set_number, ms_set_word, ms_set_texts, ms_set_written, ms_set_pile, ms_set_piled, ms_set_opens, ms_set_isWhole]
theorem mA_isWhole (S : MS) (aa pl tk nu : Int32) (wd : Int64) (tx : Nat → Int32) (wr : Int32) (pi : Nat → Int32) (pd op iw : Int32) : ms_isWhole (mA S aa pl tk nu wd tx wr pi pd op iw) = iw := by
  simp only [ms_isWhole, mA, ms_set_at, ms_set_place, ms_set_token, ms_set_number, ms_set_word, ms_set_texts, ms_set_written, ms_set_pile, ms_set_piled, ms_set_opens, ms_set_isWhole]
theorem mA_s_isWhole (S : MS) (aa pl tk nu : Int32) (wd : Int64) (tx : Nat → Int32) (wr : Int32) (pi : Nat → Int32) (pd op iw : Int32) (z : Int32) : ms_set_isWhole (mA S aa pl tk nu wd tx wr pi pd op iw) z = mA S aa pl tk nu wd tx wr pi pd op z := by
  simp only [mA, ms_set_at, ms_set_place, ms_set_token, ms_set_number, ms_set_word, ms_set_texts, ms_set_written, ms_set_pile, ms_set_piled, ms_set_opens, ms_set_isWhole]
theorem mA_a (S : MS) (aa pl tk nu : Int32) (wd : Int64) (tx : Nat → Int32) (wr : Int32) (pi : Nat → Int32) (pd op iw : Int32) : ms_a (mA S aa pl tk nu wd tx wr pi pd op iw) = ms_a S := by
  simp only [ms_a, mA, ms_set_at, ms_set_place, ms_set_token, ms_set_number, ms_set_word, ms_set_texts, ms_set_written, ms_set_pile, ms_set_piled, ms_set_opens, ms_set_isWhole]
theorem mA_image (S : MS) (aa pl tk nu : Int32) (wd : Int64) (tx : Nat → Int32) (wr : Int32) (pi : Nat → Int32) (pd op iw : Int32) : ms_image (mA S aa pl tk nu wd tx wr pi pd op iw) = ms_image S := by
  simp only [ms_image, mA, ms_set_at, ms_set_place, ms_set_token, ms_set_number, ms_set_word, ms_set_texts, ms_set_written, ms_set_pile, ms_set_piled, ms_set_opens, ms_set_isWhole]
theorem mA_tape (S : MS) (aa pl tk nu : Int32) (wd : Int64) (tx : Nat → Int32) (wr : Int32) (pi : Nat → Int32) (pd op iw : Int32) : ms_tape (mA S aa pl tk nu wd tx wr pi pd op iw) = ms_tape S := by
  simp only [ms_tape, mA, ms_set_at, ms_set_place, ms_set_token, ms_set_number, ms_set_word, ms_set_texts, ms_set_written, ms_set_pile, ms_set_piled, ms_set_opens, ms_set_isWhole]
theorem mA_taped (S : MS) (aa pl tk nu : Int32) (wd : Int64) (tx : Nat → Int32) (wr : Int32) (pi : Nat → Int32) (pd op iw : Int32) : ms_taped (mA S aa pl tk nu wd tx wr pi pd op iw) = ms_taped S := by
  simp only [ms_taped, mA, ms_set_at, ms_set_place, ms_set_token, ms_set_number, ms_set_word, ms_set_texts, ms_set_written, ms_set_pile, ms_set_piled, ms_set_opens, ms_set_isWhole]
theorem mA_text0 (S : MS) (aa pl tk nu : Int32) (wd : Int64) (tx : Nat → Int32) (wr : Int32) (pi : Nat → Int32) (pd op iw : Int32) : ms_text0 (mA S aa pl tk nu wd tx wr pi pd op iw) = ms_text0 S := by
  simp only [ms_text0, mA, ms_set_at, ms_set_place, ms_set_token, ms_set_number, ms_set_word, ms_set_texts, ms_set_written, ms_set_pile, ms_set_piled, ms_set_opens, ms_set_isWhole]
theorem mA_sort0 (S : MS) (aa pl tk nu : Int32) (wd : Int64) (tx : Nat → Int32) (wr : Int32) (pi : Nat → Int32) (pd op iw : Int32) : ms_sort0 (mA S aa pl tk nu wd tx wr pi pd op iw) = ms_sort0 S := by
  simp only [ms_sort0, mA, ms_set_at, ms_set_place, ms_set_token, ms_set_number, ms_set_word, ms_set_texts, ms_set_written, ms_set_pile, ms_set_piled, ms_set_opens, ms_set_isWhole]
theorem mA_once (S : MS) (aa pl tk nu : Int32) (wd : Int64) (tx : Nat → Int32) (wr : Int32) (pi : Nat → Int32) (pd op iw : Int32) : ms_once (mA S aa pl tk nu wd tx wr pi pd op iw) = ms_once S := by
  simp only [ms_once, mA, ms_set_at, ms_set_place, ms_set_token, ms_set_number, ms_set_word, ms_set_texts, ms_set_written, ms_set_pile, ms_set_piled, ms_set_opens, ms_set_isWhole]
theorem mA_fault (S : MS) (aa pl tk nu : Int32) (wd : Int64) (tx : Nat → Int32) (wr : Int32) (pi : Nat → Int32) (pd op iw : Int32) : ms_fault (mA S aa pl tk nu wd tx wr pi pd op iw) = ms_fault S := by
  simp only [ms_fault, mA, ms_set_at, ms_set_place, ms_set_token, ms_set_number, ms_set_word, ms_set_texts, ms_set_written, ms_set_pile, ms_set_piled, ms_set_opens, ms_set_isWhole]
theorem mA_faultPlace (S : MS) (aa pl tk nu : Int32) (wd : Int64) (tx : Nat → Int32) (wr : Int32) (pi : Nat → Int32) (pd op iw : Int32) : ms_faultPlace (mA S aa pl tk nu wd tx wr pi pd op iw) = ms_faultPlace S := by
  simp only [ms_faultPlace, mA, ms_set_at, ms_set_place, ms_set_token, ms_set_number, ms_set_word, ms_set_texts, ms_set_written, ms_set_pile, ms_set_piled, ms_set_opens, ms_set_isWhole]
theorem mA_id (S : MS) : mA S (ms_at S) (ms_place S) (ms_token S) (ms_number S) (ms_word S) (ms_texts S) (ms_written S) (ms_pile S) (ms_piled S) (ms_opens S) (ms_isWhole S) = S := by
  simp only [ms_at, ms_place, ms_token, ms_number, ms_word, ms_texts, ms_written, ms_pile, ms_piled, ms_opens, ms_isWhole, mA, ms_set_at, ms_set_place, ms_set_token, ms_set_number, ms_set_word, ms_set_texts, ms_set_written, ms_set_pile, ms_set_piled, ms_set_opens, ms_set_isWhole]
/-! the words -/
def wSt (i : Nat) : Nat := [0, 4, 9, 15, 20, 28, 34, 40, 44, 50, 55, 59, 65, 71, 78, 84, 90, 95, 100, 103, 106, 111, 116, 122, 125, 130, 135, 139, 142, 146, 150].getD i 0
def wLn (i : Nat) : Nat := [3, 4, 5, 4, 7, 5, 5, 3, 5, 4, 3, 5, 5, 6, 5, 5, 4, 4, 2, 2, 4, 4, 5, 2, 4, 4, 3, 2, 3, 3].getD i 0
def wCh (i j : Nat) : Nat := ([[100, 97, 121], [107, 105, 110, 100], [103, 114, 105, 101, 102], [109, 111, 111, 100], [108, 97, 117, 103, 104, 101, 100], [104, 111, 117, 115, 101], [115, 107, 105, 108, 108], [97, 103, 101], [116, 105, 114, 101, 100], [102, 97, 108, 108], [119, 104, 111], [116, 104, 101, 114, 101], [101, 97, 115, 101, 115], [108, 97, 117, 103, 104, 115], [103, 114, 111, 119, 115], [99, 108, 111, 119, 110], [115, 101, 110, 100], [114, 101, 115, 116], [98, 121], [116, 111], [104, 111, 108, 100], [102, 114, 111, 109], [109, 111, 111, 100, 115], [105, 102], [116, 104, 101, 110], [101, 108, 115, 101], [101, 110, 100], [111, 114], [97, 110, 100], [110, 111, 116]].getD i []).getD j 0
theorem w_tab : ∀ i, i < 30 → wSt (i + 1) = wSt i + wLn i + 1 ∧ wLn i ≤ 7 ∧ 0 < wLn i ∧ wSt i + wLn i < 150 ∧ wzCh (nI (wSt i + wLn i)) = 32 ∧ ∀ j, j < wLn i → (wzCh (nI (wSt i + j)) = nI (wCh i j) ∧ wCh i j ≠ 32 ∧ 97 ≤ wCh i j ∧ wCh i j ≤ 122) := by decide +kernel
/-- bytes of the tape -/
def TP (S : CS) (M : MS) (n : Nat) (b : Nat → Nat) : Prop := n ≤ 300 ∧ cx_r_length S = nI n ∧ ms_taped M = nI n ∧ ∀ i, i < n → cx_r_tape S i = nI (b i) ∧ ms_tape M i = nI (b i) ∧ b i ≤ 255
def blB (x : Nat) : Bool := x == 32 || x == 10
def leB (x : Nat) : Bool := (97 ≤ x && x ≤ 122) || (65 ≤ x && x ≤ 90)
def fiB (x : Nat) : Bool := 48 ≤ x && x ≤ 57
theorem tk_bl : ∀ x, x < 256 → (blB x = true ↔ (nI x = 32 ∨ nI x = 10)) := by decide +kernel
theorem tk_le : ∀ x, x < 256 → (leB x = true ↔ ((¬ nI x < 97 ∧ nI x ≤ 122) ∨ (¬ nI x < 65 ∧ ¬ 90 < nI x))) := by decide +kernel
theorem tk_fi : ∀ x, x < 256 → (fiB x = true ↔ (¬ nI x < 48 ∧ ¬ 57 < nI x)) := by decide +kernel
theorem q_isBlank {x : Nat} (hx : x ≤ 255) (S : CS) (post : Int32 → CS → Prop) : wC_X6_isBlank (nI x) S post = post (if blB x = true then 1 else 0) S := by
  have t := tk_bl x (by omega)
  unfold wC_X6_isBlank
  by_cases h1 : nI x = 32
  · rw [p_T h1, if_pos (t.mpr (Or.inl h1))]
  · rw [p_F h1]
    by_cases h2 : nI x = 10
    · rw [p_T h2, if_pos (t.mpr (Or.inr h2))]
    · rw [p_F h2, if_neg (fun z => by rcases t.mp z with q | q; exact h1 q; exact h2 q)]
theorem q_isLetter {x : Nat} (hx : x ≤ 255) (S : CS) (post : Int32 → CS → Prop) : wC_X6_isLetter (nI x) S post = post (if leB x = true then 1 else 0) S := by
  have t := tk_le x (by omega)
  have two : ¬ (¬ nI x < 97 ∧ nI x ≤ 122) → wC_X6_isLetter_12 post (nI x) S = post (if leB x = true then 1 else 0) S := by
    intro n
    unfold wC_X6_isLetter_12
    by_cases h1 : nI x < 65
    · rw [p_T h1, if_neg (fun z => by rcases t.mp z with q | q; exact n q; exact q.1 h1)]
    · rw [p_F h1]
      by_cases h2 : 90 < nI x
      · rw [p_T h2, if_neg (fun z => by rcases t.mp z with q | q; exact n q; exact q.2 h2)]
      · rw [p_F h2, if_pos (t.mpr (Or.inr ⟨h1, h2⟩))]
  unfold wC_X6_isLetter
  by_cases h1 : nI x < 97
  · rw [p_T h1, two (fun z => z.1 h1)]
  · rw [p_F h1]
    by_cases h2 : nI x ≤ 122
    · rw [p_T h2, if_pos (t.mpr (Or.inl ⟨h1, h2⟩))]
    · rw [p_F h2, two (fun z => h2 z.2)]
theorem q_isDigit {x : Nat} (hx : x ≤ 255) (S : CS) (post : Int32 → CS → Prop) : wC_X6_isDigit (nI x) S post = post (if fiB x = true then 1 else 0) S := by
  have t := tk_fi x (by omega)
  unfold wC_X6_isDigit
  by_cases h1 : nI x < 48
  · rw [p_T h1, if_neg (fun z => (t.mp z).1 h1)]
  · rw [p_F h1]
    by_cases h2 : 57 < nI x
    · rw [p_T h2, if_neg (fun z => (t.mp z).2 h2)]
    · rw [p_F h2, if_pos (t.mpr ⟨h1, h2⟩)]
theorem m_isLetter {x : Int32} {b : Bool} (h : (b = true ↔ ((¬ x < 97 ∧ x ≤ 122) ∨ (¬ x < 65 ∧ ¬ 90 < x)))) (S : MS) (post : Int32 → MS → Prop) : wM_isLetterByte x S post = post (if b = true then 1 else 0) S := by
  have two : ¬ (¬ x < 97 ∧ x ≤ 122) → wM_isLetterByte_12 post x S = post (if b = true then 1 else 0) S := by
    intro n
    unfold wM_isLetterByte_12
    by_cases h1 : x < 65
    · rw [p_T h1, if_neg (fun z => by rcases h.mp z with q | q; exact n q; exact q.1 h1)]
    · rw [p_F h1]
      by_cases h2 : 90 < x
      · rw [p_T h2, if_neg (fun z => by rcases h.mp z with q | q; exact n q; exact q.2 h2)]
      · rw [p_F h2, if_pos (h.mpr (Or.inr ⟨h1, h2⟩))]
  unfold wM_isLetterByte
  by_cases h1 : x < 97
  · rw [p_T h1, two (fun z => z.1 h1)]
  · rw [p_F h1]
    by_cases h2 : x ≤ 122
    · rw [p_T h2, if_pos (h.mpr (Or.inl ⟨h1, h2⟩))]
    · rw [p_F h2, two (fun z => h2 z.2)]
theorem m_isFigure {x : Int32} {b : Bool} (h : (b = true ↔ (¬ x < 48 ∧ ¬ 57 < x))) (S : MS) (post : Int32 → MS → Prop) : wM_isFigure x S post = post (if b = true then 1 else 0) S := by
  unfold wM_isFigure
  by_cases h1 : x < 48
  · rw [p_T h1, if_neg (fun z => (h.mp z).1 h1)]
  · rw [p_F h1]
    by_cases h2 : 57 < x
    · rw [p_T h2, if_neg (fun z => (h.mp z).2 h2)]
    · rw [p_F h2, if_pos (h.mpr ⟨h1, h2⟩)]
/-- as far as a test holds -/
def spn (q : Nat → Bool) : Nat → Nat → Nat
  | 0, p => p
  | d + 1, p => if q p = true then spn q d (p + 1) else p
theorem spn_le (q : Nat → Bool) : ∀ d p, p ≤ spn q d p ∧ spn q d p ≤ p + d ∧ (∀ i, p ≤ i → i < spn q d p → q i = true) := by
  intro d
  induction d with
  | zero => intro p; exact ⟨Nat.le_refl _, Nat.le_refl _, fun i h1 h2 => by have : spn q 0 p = p := rfl; omega⟩
  | succ d ih =>
    intro p
    by_cases c : q p = true
    · have e : spn q (d + 1) p = spn q d (p + 1) := if_pos c
      obtain ⟨a, b, f⟩ := ih (p + 1)
      rw [e]
      refine ⟨by omega, by omega, ?_⟩
      intro i h1 h2
      by_cases ei : i = p
      · rw [ei]
        exact c
      · exact f i (by omega) h2
    · have e : spn q (d + 1) p = p := if_neg c
      rw [e]
      exact ⟨Nat.le_refl _, by omega, fun i h1 h2 => by omega⟩
theorem spn_end (q : Nat → Bool) : ∀ d p, spn q d p < p + d → ¬ q (spn q d p) = true := by
  intro d
  induction d with
  | zero => intro p h; have : spn q 0 p = p := rfl; omega
  | succ d ih =>
    intro p h
    by_cases c : q p = true
    · have e : spn q (d + 1) p = spn q d (p + 1) := if_pos c
      rw [e] at h ⊢
      exact ih (p + 1) (by omega)
    · have e : spn q (d + 1) p = p := if_neg c
      rw [e]
      exact c
/-! the class's word -/
def wEq (b : Nat → Nat) (s e i : Nat) : Prop := e = s + wLn i ∧ ∀ j, j < wLn i → b (s + j) = wCh i j
/-- the first of the words that are the bytes, else 30 -/
def wIx (b : Nat → Nat) (s e : Nat) (c : Nat) : Prop := (c < 30 ∧ wEq b s e c ∧ ∀ i, i < c → ¬ wEq b s e i) ∨ (c = 30 ∧ ∀ i, i < 30 → ¬ wEq b s e i)
theorem tape_C {S : CS} {M : MS} {n : Nat} {b : Nat → Nat} (T : TP S M n b) {i : Nat} (h : i < n) : k_at 300 (cx_r_tape S) (nI i) = nI (b i) := by
  have h3 := T.1
  rw [p_at (by decide) _ (by omega)]
  exact (T.2.2.2 i h).1
theorem q_word1 {S : CS} {M : MS} {n : Nat} {b : Nat → Nat} (T : TP S M n b) {s e i : Nat} (hi : i < 30) (hs : s ≤ e) (he : e ≤ n) (nu : Int32) (cd : Nat → Int32) (cl op ft : Int32) (post : CS → Prop) (N : Nat) (hp : wC_X6_takeWord_59 post N (nI (i + 1)) (nI s) 1 (nI (wSt (i + 1))) (cA S 30 (nI s) (nI e) nu cd cl op ft) ∨ (wEq b s e i ∧ 1 ≤ N ∧ post (cA S (nI i) (nI s) (nI e) nu cd cl op ft))) (hw : wEq b s e i → (1 ≤ N ∧ post (cA S (nI i) (nI s) (nI e) nu cd cl op ft))) (hn : ¬ wEq b s e i → wC_X6_takeWord_59 post N (nI (i + 1)) (nI s) 1 (nI (wSt (i + 1))) (cA S 30 (nI s) (nI e) nu cd cl op ft)) : ∀ (d j : Nat) (x3 : Int32), j + d = wLn i → ((x3 = 1 ∧ (∀ k, k < j → s + k < e ∧ b (s + k) = wCh i k)) ∨ (x3 = 0 ∧ ¬ ∀ k, k < j → s + k < e ∧ b (s + k) = wCh i k)) → wC_X6_takeWord_59 post (N + 1 + d) (nI i) (nI (s + j)) x3 (nI (wSt i + j)) (cA S 30 (nI s) (nI e) nu cd cl op ft) := by
  obtain ⟨t1, t2, t3, t4, t5, t6⟩ := w_tab i hi
  have hn300 := T.1
  intro d
  induction d with
  | zero =>
    intro j x3 ej hx
    have e1 : j = wLn i := by omega
    rw [e1] at hx ⊢
    rw [Nat.add_zero, wC_X6_takeWord_59, t5, cA_token, cA_start, cA_place]
    refine p_no (nI_ge (b := 150) t4 (by decide)) (p_yes rfl ⟨vp_in_nI t4 (by decide), p_yes rfl ?_⟩)
    have enext : nI (wSt i + wLn i) + 1 = nI (wSt (i + 1)) := by rw [nI_1, t1]
    have ei1 : nI i + 1 = nI (i + 1) := nI_1 i
    rcases hx with ⟨x1, x2⟩ | ⟨x1, x2⟩
    · rw [x1]
      refine p_no (by decide) (p_two (fun q => ?_) (fun q => ?_))
      · have q' := (nI_eq (by omega) (by omega)).mp q
        have wm : wEq b s e i := ⟨q'.symm, fun k hk => (x2 k hk).2⟩
        obtain ⟨n1, hq⟩ := hw wm
        obtain ⟨N', rfl⟩ : ∃ N', N = N' + 1 := ⟨N - 1, by omega⟩
        rw [p_all, cA_s_token, wC_X6_takeWord_59, cA_token]
        refine p_two (fun _ => hq) (fun _ => p_no ?_ hq)
        intro z
        have := (nI_eq (b := 30) (by omega) (by decide)).mp z
        omega
      · rw [enext, ei1]
        refine hn (fun wm => q ?_)
        rw [wm.1]
    · rw [x1]
      refine p_yes rfl ?_
      rw [enext, ei1]
      refine hn (fun wm => x2 (fun k hk => ⟨?_, wm.2 k hk⟩))
      rw [wm.1]
      omega
  | succ d ih =>
    intro j x3 ej hx
    obtain ⟨u1, u2, u3, u4⟩ := t6 j (by omega)
    have f3 : wSt i + j < 150 := by omega
    rw [show N + 1 + (d + 1) = N + 1 + d + 1 by omega, wC_X6_takeWord_59, u1, cA_token, cA_start, cA_place, cA_tape]
    have n32 : ¬ nI (wCh i j) = 32 := by
      intro z
      exact u2 ((nI_eq (b := 32) (by omega) (by decide)).mp z)
    have g1 : nI (s + j) + 1 = nI (s + (j + 1)) := by rw [nI_1]; rfl
    have g2 : nI (wSt i + j) + 1 = nI (wSt i + (j + 1)) := by rw [nI_1]; rfl
    rw [g1, g2]
    refine p_no (nI_ge (b := 150) f3 (by decide)) (p_yes rfl ⟨vp_in_nI f3 (by decide), p_no n32 ?_⟩)
    have bad : (¬ ∀ k, k < j + 1 → s + k < e ∧ b (s + k) = wCh i k) → wC_X6_takeWord_59 post (N + 1 + d) (nI i) (nI (s + (j + 1))) 0 (nI (wSt i + (j + 1))) (cA S 30 (nI s) (nI e) nu cd cl op ft) := fun z => ih (j + 1) 0 (by omega) (Or.inr ⟨rfl, z⟩)
    rcases hx with ⟨x1, x2⟩ | ⟨x1, x2⟩
    · rw [x1]
      refine p_no (by decide) (p_two (fun q => bad (fun z => ?_)) (fun q => ?_))
      · have := (nI_leI (by omega) (by omega)).mp q
        have := (z j (by omega)).1
        omega
      · have lt : s + j < e := by
          by_cases lt : s + j < e
          · exact lt
          · exact absurd (nI_le (by omega) (by omega)) q
        rw [tape_C T (by omega)]
        have bb := (T.2.2.2 (s + j) (by omega)).2.2
        rw [nI_eq (by omega) (by omega)]
        refine p_two (fun q2 => ih (j + 1) 1 (by omega) (Or.inl ⟨rfl, ?_⟩)) (fun q2 => bad (fun z => q2 (z j (by omega)).2))
        intro k hk
        by_cases ek : k = j
        · rw [ek]
          exact ⟨lt, q2⟩
        · exact x2 k (by omega)
    · rw [x1]
      refine p_yes rfl (bad (fun z => x2 (fun k hk => z k (by omega))))
theorem q_words {S : CS} {M : MS} {n : Nat} {b : Nat → Nat} (T : TP S M n b) {s e : Nat} (hs : s ≤ e) (he : e ≤ n) (nu : Int32) (cd : Nat → Int32) (cl op ft : Int32) : ∀ (d i : Nat), i + d = 30 → (∀ j, j < i → ¬ wEq b s e j) → ∃ c, wIx b s e c ∧ ∀ post : CS → Prop, post (cA S (nI c) (nI s) (nI e) nu cd cl op ft) → ∃ N, wC_X6_takeWord_59 post N (nI i) (nI s) 1 (nI (wSt i)) (cA S 30 (nI s) (nI e) nu cd cl op ft) := by
  intro d
  induction d with
  | zero =>
    intro i ei hno
    have e30 : i = 30 := by omega
    subst e30
    refine ⟨30, Or.inr ⟨rfl, hno⟩, ?_⟩
    intro post hp
    refine ⟨1, ?_⟩
    rw [wC_X6_takeWord_59]
    exact p_yes (by decide) hp
  | succ d ih =>
    intro i ei hno
    by_cases wm : wEq b s e i
    · refine ⟨i, Or.inl ⟨by omega, wm, hno⟩, ?_⟩
      intro post hp
      refine ⟨1 + 1 + wLn i, ?_⟩
      have q := q_word1 T (i := i) (by omega) hs he nu cd cl op ft post 1 (Or.inr ⟨wm, by omega, hp⟩) (fun _ => ⟨by omega, hp⟩) (fun z => absurd wm z) (wLn i) 0 1 (by omega) (Or.inl ⟨rfl, fun k hk => by omega⟩)
      exact q
    · obtain ⟨c, hc, h⟩ := ih (i + 1) (by omega) (by
        intro j hj
        by_cases ej : j = i
        · rw [ej]
          exact wm
        · exact hno j (by omega))
      refine ⟨c, hc, ?_⟩
      intro post hp
      obtain ⟨N, hN⟩ := h post hp
      refine ⟨N + 1 + wLn i, ?_⟩
      have q := q_word1 T (i := i) (by omega) hs he nu cd cl op ft post N (Or.inl hN) (fun z => absurd z wm) (fun _ => hN) (wLn i) 0 1 (by omega) (Or.inl ⟨rfl, fun k hk => by omega⟩)
      exact q
