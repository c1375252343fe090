/-! houses with one number changed (written by mkset.py) -/
def setKd (h : Hs) (l v : Nat) : Hs := mkH (hL h) (hN h) (hMain h) (hMin h) (hUsed h) (hOn h) (hIn h) (fun m => if m = l then v else hKd h m) (hRt h) (hHt h) (hDd h) (hPg h) (hLd h)
theorem HX.setKd {a : Nat} {σ : St} {h : Hs} (hx : HX a σ h) (l v : Nat) : HX a (wr σ (a + 1) l (nI v)) (setKd h l v) := by
  obtain ⟨g1, g2, g3, g4, g5, g6, g7, gl, gt⟩ := hx
  refine ⟨(wr_ne _ (by omega)).trans g1, (wr_ne _ (by omega)).trans g2, (wr_ne _ (by omega)).trans g3, (wr_ne _ (by omega)).trans g4, (wr_ne _ (by omega)).trans g5, (wr_ne _ (by omega)).trans g6, (wr_ne _ (by omega)).trans g7, fun m hm => ?_, fun m hm => ?_⟩
  · obtain ⟨q1, q2, q3, q4⟩ := gl m hm
    refine ⟨?_, (wr_ne _ (by omega)).trans q2, (wr_ne _ (by omega)).trans q3, (wr_ne _ (by omega)).trans q4⟩
    show wr σ (a + 1) l (nI v) (a + 1) m = nI (if m = l then v else hKd h m)
    by_cases e : m = l
    · rw [e, if_pos rfl, wr_same]
    · rw [if_neg e, wr_k e]; exact q1
  · exact ⟨(wr_ne _ (by omega)).trans (gt m hm).1, (wr_ne _ (by omega)).trans (gt m hm).2⟩
theorem HM.setKd {b d k : Nat} {σ : St} {h : Hs} (hm : HM b d σ h) (hw : WF h) (l v : Nat) (hl : l < 4) (e : k = d + 3 + l) : HM b d (wr σ 261 k (nI v)) (setKd h l v) := by
  obtain ⟨g1, g2, g3, g4, g5, g6, gl, gt⟩ := hm
  have w1 := hw.1
  have w2 := hw.2.1
  subst e
  refine ⟨(wr_ne _ (by omega)).trans g1, (wr_ne _ (by omega)).trans g2, (wr_ne _ (by omega)).trans g3, (wr_ne _ (by omega)).trans g4, (wr_ne _ (by omega)).trans g5, (wr_ne _ (by omega)).trans g6, fun m hm => ?_, fun m hm => ?_⟩
  · have hm4 : m < 4 := Nat.lt_of_lt_of_le hm w1
    obtain ⟨q1, q2, q3, q4⟩ := gl m hm
    refine ⟨?_, (wr_ne _ (by omega)).trans q2, (wr_ne _ (by omega)).trans q3, (wr_ne _ (by omega)).trans q4⟩
    show wr σ 261 (d + 3 + l) (nI v) 261 (d + 3 + m) = nI (if m = l then v else hKd h m)
    by_cases e : m = l
    · rw [e, if_pos rfl, wr_same]
    · rw [if_neg e, wr_k (by omega)]; exact q1
  · have hm6 : m < 6 := Nat.lt_of_lt_of_le hm w2
    obtain ⟨q1, q2, q3⟩ := gt m hm
    exact ⟨(wr_ne _ (by omega)).trans q1, (wr_ne _ (by omega)).trans q2, (wr_ne _ (by omega)).trans q3⟩
def setRt (h : Hs) (l v : Nat) : Hs := mkH (hL h) (hN h) (hMain h) (hMin h) (hUsed h) (hOn h) (hIn h) (hKd h) (fun m => if m = l then v else hRt h m) (hHt h) (hDd h) (hPg h) (hLd h)
theorem HX.setRt {a : Nat} {σ : St} {h : Hs} (hx : HX a σ h) (l v : Nat) : HX a (wr σ (a + 2) l (nI v)) (setRt h l v) := by
  obtain ⟨g1, g2, g3, g4, g5, g6, g7, gl, gt⟩ := hx
  refine ⟨(wr_ne _ (by omega)).trans g1, (wr_ne _ (by omega)).trans g2, (wr_ne _ (by omega)).trans g3, (wr_ne _ (by omega)).trans g4, (wr_ne _ (by omega)).trans g5, (wr_ne _ (by omega)).trans g6, (wr_ne _ (by omega)).trans g7, fun m hm => ?_, fun m hm => ?_⟩
  · obtain ⟨q1, q2, q3, q4⟩ := gl m hm
    refine ⟨(wr_ne _ (by omega)).trans q1, ?_, (wr_ne _ (by omega)).trans q3, (wr_ne _ (by omega)).trans q4⟩
    show wr σ (a + 2) l (nI v) (a + 2) m = nI (if m = l then v else hRt h m)
    by_cases e : m = l
    · rw [e, if_pos rfl, wr_same]
    · rw [if_neg e, wr_k e]; exact q2
  · exact ⟨(wr_ne _ (by omega)).trans (gt m hm).1, (wr_ne _ (by omega)).trans (gt m hm).2⟩
theorem HM.setRt {b d k : Nat} {σ : St} {h : Hs} (hm : HM b d σ h) (hw : WF h) (l v : Nat) (hl : l < 4) (e : k = b + 8 + l) : HM b d (wr σ 260 k (nI v)) (setRt h l v) := by
  obtain ⟨g1, g2, g3, g4, g5, g6, gl, gt⟩ := hm
  have w1 := hw.1
  have w2 := hw.2.1
  subst e
  refine ⟨(wr_ne _ (by omega)).trans g1, (wr_ne _ (by omega)).trans g2, (wr_ne _ (by omega)).trans g3, (wr_ne _ (by omega)).trans g4, (wr_ne _ (by omega)).trans g5, (wr_ne _ (by omega)).trans g6, fun m hm => ?_, fun m hm => ?_⟩
  · have hm4 : m < 4 := Nat.lt_of_lt_of_le hm w1
    obtain ⟨q1, q2, q3, q4⟩ := gl m hm
    refine ⟨(wr_ne _ (by omega)).trans q1, ?_, (wr_ne _ (by omega)).trans q3, (wr_ne _ (by omega)).trans q4⟩
    show wr σ 260 (b + 8 + l) (nI v) 260 (b + 8 + m) = nI (if m = l then v else hRt h m)
    by_cases e : m = l
    · rw [e, if_pos rfl, wr_same]
    · rw [if_neg e, wr_k (by omega)]; exact q2
  · have hm6 : m < 6 := Nat.lt_of_lt_of_le hm w2
    obtain ⟨q1, q2, q3⟩ := gt m hm
    exact ⟨(wr_ne _ (by omega)).trans q1, (wr_ne _ (by omega)).trans q2, (wr_ne _ (by omega)).trans q3⟩
def setHt (h : Hs) (l v : Nat) : Hs := mkH (hL h) (hN h) (hMain h) (hMin h) (hUsed h) (hOn h) (hIn h) (hKd h) (hRt h) (fun m => if m = l then v else hHt h m) (hDd h) (hPg h) (hLd h)
theorem HX.setHt {a : Nat} {σ : St} {h : Hs} (hx : HX a σ h) (l v : Nat) : HX a (wr σ (a + 3) l (nI v)) (setHt h l v) := by
  obtain ⟨g1, g2, g3, g4, g5, g6, g7, gl, gt⟩ := hx
  refine ⟨(wr_ne _ (by omega)).trans g1, (wr_ne _ (by omega)).trans g2, (wr_ne _ (by omega)).trans g3, (wr_ne _ (by omega)).trans g4, (wr_ne _ (by omega)).trans g5, (wr_ne _ (by omega)).trans g6, (wr_ne _ (by omega)).trans g7, fun m hm => ?_, fun m hm => ?_⟩
  · obtain ⟨q1, q2, q3, q4⟩ := gl m hm
    refine ⟨(wr_ne _ (by omega)).trans q1, (wr_ne _ (by omega)).trans q2, ?_, (wr_ne _ (by omega)).trans q4⟩
    show wr σ (a + 3) l (nI v) (a + 3) m = nI (if m = l then v else hHt h m)
    by_cases e : m = l
    · rw [e, if_pos rfl, wr_same]
    · rw [if_neg e, wr_k e]; exact q3
  · exact ⟨(wr_ne _ (by omega)).trans (gt m hm).1, (wr_ne _ (by omega)).trans (gt m hm).2⟩
theorem HM.setHt {b d k : Nat} {σ : St} {h : Hs} (hm : HM b d σ h) (hw : WF h) (l v : Nat) (hl : l < 4) (e : k = b + l) : HM b d (wr σ 260 k (nI v)) (setHt h l v) := by
  obtain ⟨g1, g2, g3, g4, g5, g6, gl, gt⟩ := hm
  have w1 := hw.1
  have w2 := hw.2.1
  subst e
  refine ⟨(wr_ne _ (by omega)).trans g1, (wr_ne _ (by omega)).trans g2, (wr_ne _ (by omega)).trans g3, (wr_ne _ (by omega)).trans g4, (wr_ne _ (by omega)).trans g5, (wr_ne _ (by omega)).trans g6, fun m hm => ?_, fun m hm => ?_⟩
  · have hm4 : m < 4 := Nat.lt_of_lt_of_le hm w1
    obtain ⟨q1, q2, q3, q4⟩ := gl m hm
    refine ⟨(wr_ne _ (by omega)).trans q1, (wr_ne _ (by omega)).trans q2, ?_, (wr_ne _ (by omega)).trans q4⟩
    show wr σ 260 (b + l) (nI v) 260 (b + m) = nI (if m = l then v else hHt h m)
    by_cases e : m = l
    · rw [e, if_pos rfl, wr_same]
    · rw [if_neg e, wr_k (by omega)]; exact q3
  · have hm6 : m < 6 := Nat.lt_of_lt_of_le hm w2
    obtain ⟨q1, q2, q3⟩ := gt m hm
    exact ⟨(wr_ne _ (by omega)).trans q1, (wr_ne _ (by omega)).trans q2, (wr_ne _ (by omega)).trans q3⟩
def setDd (h : Hs) (l v : Nat) : Hs := mkH (hL h) (hN h) (hMain h) (hMin h) (hUsed h) (hOn h) (hIn h) (hKd h) (hRt h) (hHt h) (fun m => if m = l then v else hDd h m) (hPg h) (hLd h)
theorem HX.setDd {a : Nat} {σ : St} {h : Hs} (hx : HX a σ h) (l v : Nat) : HX a (wr σ (a + 4) l (nI v)) (setDd h l v) := by
  obtain ⟨g1, g2, g3, g4, g5, g6, g7, gl, gt⟩ := hx
  refine ⟨(wr_ne _ (by omega)).trans g1, (wr_ne _ (by omega)).trans g2, (wr_ne _ (by omega)).trans g3, (wr_ne _ (by omega)).trans g4, (wr_ne _ (by omega)).trans g5, (wr_ne _ (by omega)).trans g6, (wr_ne _ (by omega)).trans g7, fun m hm => ?_, fun m hm => ?_⟩
  · obtain ⟨q1, q2, q3, q4⟩ := gl m hm
    refine ⟨(wr_ne _ (by omega)).trans q1, (wr_ne _ (by omega)).trans q2, (wr_ne _ (by omega)).trans q3, ?_⟩
    show wr σ (a + 4) l (nI v) (a + 4) m = nI (if m = l then v else hDd h m)
    by_cases e : m = l
    · rw [e, if_pos rfl, wr_same]
    · rw [if_neg e, wr_k e]; exact q4
  · exact ⟨(wr_ne _ (by omega)).trans (gt m hm).1, (wr_ne _ (by omega)).trans (gt m hm).2⟩
theorem HM.setDd {b d k : Nat} {σ : St} {h : Hs} (hm : HM b d σ h) (hw : WF h) (l v : Nat) (hl : l < 4) (e : k = b + 4 + l) : HM b d (wr σ 260 k (nI v)) (setDd h l v) := by
  obtain ⟨g1, g2, g3, g4, g5, g6, gl, gt⟩ := hm
  have w1 := hw.1
  have w2 := hw.2.1
  subst e
  refine ⟨(wr_ne _ (by omega)).trans g1, (wr_ne _ (by omega)).trans g2, (wr_ne _ (by omega)).trans g3, (wr_ne _ (by omega)).trans g4, (wr_ne _ (by omega)).trans g5, (wr_ne _ (by omega)).trans g6, fun m hm => ?_, fun m hm => ?_⟩
  · have hm4 : m < 4 := Nat.lt_of_lt_of_le hm w1
    obtain ⟨q1, q2, q3, q4⟩ := gl m hm
    refine ⟨(wr_ne _ (by omega)).trans q1, (wr_ne _ (by omega)).trans q2, (wr_ne _ (by omega)).trans q3, ?_⟩
    show wr σ 260 (b + 4 + l) (nI v) 260 (b + 4 + m) = nI (if m = l then v else hDd h m)
    by_cases e : m = l
    · rw [e, if_pos rfl, wr_same]
    · rw [if_neg e, wr_k (by omega)]; exact q4
  · have hm6 : m < 6 := Nat.lt_of_lt_of_le hm w2
    obtain ⟨q1, q2, q3⟩ := gt m hm
    exact ⟨(wr_ne _ (by omega)).trans q1, (wr_ne _ (by omega)).trans q2, (wr_ne _ (by omega)).trans q3⟩
def setPg (h : Hs) (l v : Nat) : Hs := mkH (hL h) (hN h) (hMain h) (hMin h) (hUsed h) (hOn h) (hIn h) (hKd h) (hRt h) (hHt h) (hDd h) (fun m => if m = l then v else hPg h m) (hLd h)
theorem HX.setPg {a : Nat} {σ : St} {h : Hs} (hx : HX a σ h) (l v : Nat) : HX a (wr σ (a + 6) l (nI v)) (setPg h l v) := by
  obtain ⟨g1, g2, g3, g4, g5, g6, g7, gl, gt⟩ := hx
  refine ⟨(wr_ne _ (by omega)).trans g1, (wr_ne _ (by omega)).trans g2, (wr_ne _ (by omega)).trans g3, (wr_ne _ (by omega)).trans g4, (wr_ne _ (by omega)).trans g5, (wr_ne _ (by omega)).trans g6, (wr_ne _ (by omega)).trans g7, fun m hm => ?_, fun m hm => ?_⟩
  · obtain ⟨q1, q2, q3, q4⟩ := gl m hm
    exact ⟨(wr_ne _ (by omega)).trans q1, (wr_ne _ (by omega)).trans q2, (wr_ne _ (by omega)).trans q3, (wr_ne _ (by omega)).trans q4⟩
  · refine ⟨?_, (wr_ne _ (by omega)).trans (gt m hm).2⟩
    show wr σ (a + 6) l (nI v) (a + 6) m = nI (if m = l then v else hPg h m)
    by_cases e : m = l
    · rw [e, if_pos rfl, wr_same]
    · rw [if_neg e, wr_k e]; exact (gt m hm).1
theorem HM.setPg {b d k : Nat} {σ : St} {h : Hs} (hm : HM b d σ h) (hw : WF h) (l v : Nat) (hl : l < 6) (e : k = b + 12 + l) : HM b d (wr σ 260 k (nI v)) (setPg h l v) := by
  obtain ⟨g1, g2, g3, g4, g5, g6, gl, gt⟩ := hm
  have w1 := hw.1
  have w2 := hw.2.1
  subst e
  refine ⟨(wr_ne _ (by omega)).trans g1, (wr_ne _ (by omega)).trans g2, (wr_ne _ (by omega)).trans g3, (wr_ne _ (by omega)).trans g4, (wr_ne _ (by omega)).trans g5, (wr_ne _ (by omega)).trans g6, fun m hm => ?_, fun m hm => ?_⟩
  · have hm4 : m < 4 := Nat.lt_of_lt_of_le hm w1
    obtain ⟨q1, q2, q3, q4⟩ := gl m hm
    exact ⟨(wr_ne _ (by omega)).trans q1, (wr_ne _ (by omega)).trans q2, (wr_ne _ (by omega)).trans q3, (wr_ne _ (by omega)).trans q4⟩
  · have hm6 : m < 6 := Nat.lt_of_lt_of_le hm w2
    obtain ⟨q1, q2, q3⟩ := gt m hm
    refine ⟨?_, (wr_ne _ (by omega)).trans q2, (wr_ne _ (by omega)).trans q3⟩
    show wr σ 260 (b + 12 + l) (nI v) 260 (b + 12 + m) = nI (if m = l then v else hPg h m)
    by_cases e : m = l
    · rw [e, if_pos rfl, wr_same]
    · rw [if_neg e, wr_k (by omega)]; exact q1
def setMain (h : Hs) (v : Nat) : Hs := mkH (hL h) (hN h) (v) (hMin h) (hUsed h) (hOn h) (hIn h) (hKd h) (hRt h) (hHt h) (hDd h) (hPg h) (hLd h)
theorem HX.setMain {a : Nat} {σ : St} {h : Hs} (hx : HX a σ h) (v : Nat) : HX a (wr σ a 3 (nI v)) (setMain h v) := by
  obtain ⟨g1, g2, g3, g4, g5, g6, g7, gl, gt⟩ := hx
  refine ⟨(wr_ne _ (by omega)).trans g1, (wr_ne _ (by omega)).trans g2, wr_same _ _ _ _, (wr_ne _ (by omega)).trans g4, (wr_ne _ (by omega)).trans g5, (wr_ne _ (by omega)).trans g6, (wr_ne _ (by omega)).trans g7, fun m hm => ?_, fun m hm => ?_⟩
  · obtain ⟨q1, q2, q3, q4⟩ := gl m hm
    exact ⟨(wr_ne _ (by omega)).trans q1, (wr_ne _ (by omega)).trans q2, (wr_ne _ (by omega)).trans q3, (wr_ne _ (by omega)).trans q4⟩
  · exact ⟨(wr_ne _ (by omega)).trans (gt m hm).1, (wr_ne _ (by omega)).trans (gt m hm).2⟩
def setUsed (h : Hs) (v : Nat) : Hs := mkH (hL h) (hN h) (hMain h) (hMin h) (v) (hOn h) (hIn h) (hKd h) (hRt h) (hHt h) (hDd h) (hPg h) (hLd h)
theorem HX.setUsed {a : Nat} {σ : St} {h : Hs} (hx : HX a σ h) (v : Nat) : HX a (wr σ a 5 (nI v)) (setUsed h v) := by
  obtain ⟨g1, g2, g3, g4, g5, g6, g7, gl, gt⟩ := hx
  refine ⟨(wr_ne _ (by omega)).trans g1, (wr_ne _ (by omega)).trans g2, (wr_ne _ (by omega)).trans g3, (wr_ne _ (by omega)).trans g4, wr_same _ _ _ _, (wr_ne _ (by omega)).trans g6, (wr_ne _ (by omega)).trans g7, fun m hm => ?_, fun m hm => ?_⟩
  · obtain ⟨q1, q2, q3, q4⟩ := gl m hm
    exact ⟨(wr_ne _ (by omega)).trans q1, (wr_ne _ (by omega)).trans q2, (wr_ne _ (by omega)).trans q3, (wr_ne _ (by omega)).trans q4⟩
  · exact ⟨(wr_ne _ (by omega)).trans (gt m hm).1, (wr_ne _ (by omega)).trans (gt m hm).2⟩
def setIn (h : Hs) (v : Bool) : Hs := mkH (hL h) (hN h) (hMain h) (hMin h) (hUsed h) (hOn h) (v) (hKd h) (hRt h) (hHt h) (hDd h) (hPg h) (hLd h)
theorem HX.setIn {a : Nat} {σ : St} {h : Hs} (hx : HX a σ h) (v : Bool) : HX a (wr σ a 6 (bI v)) (setIn h v) := by
  obtain ⟨g1, g2, g3, g4, g5, g6, g7, gl, gt⟩ := hx
  refine ⟨(wr_ne _ (by omega)).trans g1, (wr_ne _ (by omega)).trans g2, (wr_ne _ (by omega)).trans g3, (wr_ne _ (by omega)).trans g4, (wr_ne _ (by omega)).trans g5, wr_same _ _ _ _, (wr_ne _ (by omega)).trans g7, fun m hm => ?_, fun m hm => ?_⟩
  · obtain ⟨q1, q2, q3, q4⟩ := gl m hm
    exact ⟨(wr_ne _ (by omega)).trans q1, (wr_ne _ (by omega)).trans q2, (wr_ne _ (by omega)).trans q3, (wr_ne _ (by omega)).trans q4⟩
  · exact ⟨(wr_ne _ (by omega)).trans (gt m hm).1, (wr_ne _ (by omega)).trans (gt m hm).2⟩
def setOn (h : Hs) (v : Nat) : Hs := mkH (hL h) (hN h) (hMain h) (hMin h) (hUsed h) (v) (hIn h) (hKd h) (hRt h) (hHt h) (hDd h) (hPg h) (hLd h)
theorem HX.setOn {a : Nat} {σ : St} {h : Hs} (hx : HX a σ h) (v : Nat) : HX a (wr σ a 14 (nI v)) (setOn h v) := by
  obtain ⟨g1, g2, g3, g4, g5, g6, g7, gl, gt⟩ := hx
  refine ⟨(wr_ne _ (by omega)).trans g1, (wr_ne _ (by omega)).trans g2, (wr_ne _ (by omega)).trans g3, (wr_ne _ (by omega)).trans g4, (wr_ne _ (by omega)).trans g5, (wr_ne _ (by omega)).trans g6, wr_same _ _ _ _, fun m hm => ?_, fun m hm => ?_⟩
  · obtain ⟨q1, q2, q3, q4⟩ := gl m hm
    exact ⟨(wr_ne _ (by omega)).trans q1, (wr_ne _ (by omega)).trans q2, (wr_ne _ (by omega)).trans q3, (wr_ne _ (by omega)).trans q4⟩
  · exact ⟨(wr_ne _ (by omega)).trans (gt m hm).1, (wr_ne _ (by omega)).trans (gt m hm).2⟩
theorem HM.setMain {b d k : Nat} {σ : St} {h : Hs} (hm : HM b d σ h) (hw : WF h) (v : Nat) (e : k = d + 2) : HM b d (wr σ 261 k (nI v)) (setMain h v) := by
  obtain ⟨g1, g2, g3, g4, g5, g6, gl, gt⟩ := hm
  have w1 := hw.1
  have w2 := hw.2.1
  subst e
  refine ⟨(wr_ne _ (by omega)).trans g1, (wr_ne _ (by omega)).trans g2, wr_same _ _ _ _, (wr_ne _ (by omega)).trans g4, (wr_ne _ (by omega)).trans g5, (wr_ne _ (by omega)).trans g6, fun m hm => ?_, fun m hm => ?_⟩
  · have hm4 : m < 4 := Nat.lt_of_lt_of_le hm w1
    obtain ⟨q1, q2, q3, q4⟩ := gl m hm
    exact ⟨(wr_ne _ (by omega)).trans q1, (wr_ne _ (by omega)).trans q2, (wr_ne _ (by omega)).trans q3, (wr_ne _ (by omega)).trans q4⟩
  · have hm6 : m < 6 := Nat.lt_of_lt_of_le hm w2
    obtain ⟨q1, q2, q3⟩ := gt m hm
    exact ⟨(wr_ne _ (by omega)).trans q1, (wr_ne _ (by omega)).trans q2, (wr_ne _ (by omega)).trans q3⟩
theorem HM.setUsed {b d k : Nat} {σ : St} {h : Hs} (hm : HM b d σ h) (hw : WF h) (v : Nat) (e : k = b + 25) : HM b d (wr σ 260 k (nI v)) (setUsed h v) := by
  obtain ⟨g1, g2, g3, g4, g5, g6, gl, gt⟩ := hm
  have w1 := hw.1
  have w2 := hw.2.1
  subst e
  refine ⟨(wr_ne _ (by omega)).trans g1, (wr_ne _ (by omega)).trans g2, (wr_ne _ (by omega)).trans g3, (wr_ne _ (by omega)).trans g4, wr_same _ _ _ _, (wr_ne _ (by omega)).trans g6, fun m hm => ?_, fun m hm => ?_⟩
  · have hm4 : m < 4 := Nat.lt_of_lt_of_le hm w1
    obtain ⟨q1, q2, q3, q4⟩ := gl m hm
    exact ⟨(wr_ne _ (by omega)).trans q1, (wr_ne _ (by omega)).trans q2, (wr_ne _ (by omega)).trans q3, (wr_ne _ (by omega)).trans q4⟩
  · have hm6 : m < 6 := Nat.lt_of_lt_of_le hm w2
    obtain ⟨q1, q2, q3⟩ := gt m hm
    exact ⟨(wr_ne _ (by omega)).trans q1, (wr_ne _ (by omega)).trans q2, (wr_ne _ (by omega)).trans q3⟩
theorem HM.setIn {b d k : Nat} {σ : St} {h : Hs} (hm : HM b d σ h) (hw : WF h) (v : Bool) (e : k = b + 24) : HM b d (wr σ 260 k (bI (!v))) (setIn h v) := by
  obtain ⟨g1, g2, g3, g4, g5, g6, gl, gt⟩ := hm
  have w1 := hw.1
  have w2 := hw.2.1
  subst e
  refine ⟨(wr_ne _ (by omega)).trans g1, (wr_ne _ (by omega)).trans g2, (wr_ne _ (by omega)).trans g3, (wr_ne _ (by omega)).trans g4, (wr_ne _ (by omega)).trans g5, wr_same _ _ _ _, fun m hm => ?_, fun m hm => ?_⟩
  · have hm4 : m < 4 := Nat.lt_of_lt_of_le hm w1
    obtain ⟨q1, q2, q3, q4⟩ := gl m hm
    exact ⟨(wr_ne _ (by omega)).trans q1, (wr_ne _ (by omega)).trans q2, (wr_ne _ (by omega)).trans q3, (wr_ne _ (by omega)).trans q4⟩
  · have hm6 : m < 6 := Nat.lt_of_lt_of_le hm w2
    obtain ⟨q1, q2, q3⟩ := gt m hm
    exact ⟨(wr_ne _ (by omega)).trans q1, (wr_ne _ (by omega)).trans q2, (wr_ne _ (by omega)).trans q3⟩
theorem HM.setOn {b d : Nat} {σ s : St} {h : Hs} (hm : HM b d σ h) (hw : WF h) (v : Nat) (h1 : s 261 = σ 261) (h2 : ∀ k, k < 18 ∨ (24 ≤ k ∧ k < 27) → s 260 (b + k) = σ 260 (b + k)) (h3 : ∀ t, t < hN h → s 260 (b + 18 + t) = bI (v.testBit t)) : HM b d s (setOn h v) := by
  obtain ⟨g1, g2, g3, g4, g5, g6, gl, gt⟩ := hm
  have w1 := hw.1
  have w2 := hw.2.1
  refine ⟨by rw [h1]; exact g1, by rw [h1]; exact g2, by rw [h1]; exact g3, by rw [h2 26 (by omega)]; exact g4, by rw [h2 25 (by omega)]; exact g5, by rw [h2 24 (by omega)]; exact g6, fun m hm => ?_, fun m hm => ?_⟩
  · have hm4 : m < 4 := Nat.lt_of_lt_of_le hm w1
    obtain ⟨q1, q2, q3, q4⟩ := gl m hm
    refine ⟨by rw [h1]; exact q1, ?_, ?_, ?_⟩
    · rw [Nat.add_assoc, h2 (8 + m) (by omega), ← Nat.add_assoc]; exact q2
    · rw [h2 m (by omega)]; exact q3
    · rw [Nat.add_assoc, h2 (4 + m) (by omega), ← Nat.add_assoc]; exact q4
  · have hm6 : m < 6 := Nat.lt_of_lt_of_le hm w2
    obtain ⟨q1, q2, q3⟩ := gt m hm
    refine ⟨?_, by rw [h1]; exact q2, h3 m hm⟩
    rw [Nat.add_assoc, h2 (12 + m) (by omega), ← Nat.add_assoc]; exact q1
theorem WF.setRt {h : Hs} (hw : WF h) (l v : Nat) (hv : v ≤ 20) : WF (setRt h l v) := by
  obtain ⟨h1, h2, h3, h4, h5, h6, h7, h8⟩ := hw
  refine ⟨h1, h2, h3, h4, h5, h6, fun m hm => ?_, h8⟩
  obtain ⟨q1, q2, q3, q4, q5⟩ := h7 m hm
  refine ⟨q1, q2, ?_, q4, q5⟩
  show (if m = l then v else hRt h m) ≤ 20
  split <;> omega
theorem WF.setHt {h : Hs} (hw : WF h) (l v : Nat) (hv : v ≤ 99) : WF (setHt h l v) := by
  obtain ⟨h1, h2, h3, h4, h5, h6, h7, h8⟩ := hw
  refine ⟨h1, h2, h3, h4, h5, h6, fun m hm => ?_, h8⟩
  obtain ⟨q1, q2, q3, q4, q5⟩ := h7 m hm
  refine ⟨q1, q2, q3, ?_, q5⟩
  show (if m = l then v else hHt h m) ≤ 99
  split <;> omega
theorem WF.setDd {h : Hs} (hw : WF h) (l v : Nat) (hv : v ≤ 3) : WF (setDd h l v) := by
  obtain ⟨h1, h2, h3, h4, h5, h6, h7, h8⟩ := hw
  refine ⟨h1, h2, h3, h4, h5, h6, fun m hm => ?_, h8⟩
  obtain ⟨q1, q2, q3, q4, q5⟩ := h7 m hm
  refine ⟨q1, q2, q3, q4, ?_⟩
  show (if m = l then v else hDd h m) ≤ 3
  split <;> omega
theorem WF.setKd {h : Hs} (hw : WF h) (l v : Nat) (hv : 1 ≤ v) (hv5 : v ≤ 5) : WF (setKd h l v) := by
  obtain ⟨h1, h2, h3, h4, h5, h6, h7, h8⟩ := hw
  refine ⟨h1, h2, h3, h4, h5, h6, fun m hm => ?_, h8⟩
  obtain ⟨q1, q2, q3, q4, q5⟩ := h7 m hm
  refine ⟨?_, ?_, q3, q4, q5⟩
  · show 1 ≤ (if m = l then v else hKd h m)
    split <;> omega
  · show (if m = l then v else hKd h m) ≤ 5
    split <;> omega
theorem WF.setPg {h : Hs} (hw : WF h) (t v : Nat) (hv : v < hL h) : WF (setPg h t v) := by
  obtain ⟨h1, h2, h3, h4, h5, h6, h7, h8⟩ := hw
  refine ⟨h1, h2, h3, h4, h5, h6, h7, fun m hm => ?_⟩
  obtain ⟨q1, q2⟩ := h8 m hm
  refine ⟨?_, q2⟩
  show (if m = t then v else hPg h m) < hL h
  split <;> omega
theorem WF.setMain {h : Hs} (hw : WF h) (v : Nat) (hv : v ≤ 60) : WF (setMain h v) := ⟨hw.1, hw.2.1, hv, hw.2.2.2⟩
theorem WF.setUsed {h : Hs} (hw : WF h) (v : Nat) (hv : v ≤ 99999) : WF (setUsed h v) := ⟨hw.1, hw.2.1, hw.2.2.1, hw.2.2.2.1, hv, hw.2.2.2.2.2⟩
theorem WF.setOn {h : Hs} (hw : WF h) (v : Nat) (hv : v < 2 ^ hN h) : WF (setOn h v) := ⟨hw.1, hw.2.1, hw.2.2.1, hw.2.2.2.1, hw.2.2.2.2.1, hv, hw.2.2.2.2.2.2⟩
theorem WF.setIn {h : Hs} (hw : WF h) (v : Bool) : WF (setIn h v) := hw
