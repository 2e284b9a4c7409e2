/-! ===== format, as a run of puts and settles ===== -/
theorem DkV.o {E : gE} {f : Nat → va_E} {N : Nat} {d : DkT} {on le wr ss : Int32} (h : DkV E f N d on le wr ss) : f 2 = .inr (2, [.int (nI N), .ref (gAd E 3), .ref (gAd E 4), .ref (gAd E 5), .ref (gAd E 6), .ref (gAd E 7), .int (nI d.2.2.2.2.2.1), .int (nI d.2.2.2.2.2.2), .int on, .int le, .int wr, .int ss]) := by
  obtain ⟨dw, dla, dbo, dsy, dva, da, dn⟩ := d
  exact h.1
theorem DBV.dk {E : gE} {f : Nat → va_E} {N B : Nat} {on : Int32} {s : DbS} (h : DBV E f N B on s) : DkV E f N s.1 on s.2.2.1 s.2.2.2.1 s.2.2.2.2 := by
  obtain ⟨d, b, le, wr, ss⟩ := s
  exact h.1
theorem DBV.o8 {E : gE} {f : Nat → va_E} {N B : Nat} {on : Int32} {s : DbS} (h : DBV E f N B on s) : ∃ fs, f 8 = .inr (0, fs) := by
  obtain ⟨d, ⟨so, bo, st, ro, sp, hd, pu⟩, le, wr, ss⟩ := s
  exact ⟨_, h.2.1⟩
theorem LgV.o {E : gE} {f : Nat → va_E} {N : Nat} {l : LgT} (h : LgV E f N l) : ∃ fs, f 13 = .inr (6, fs) := by
  obtain ⟨bl, sc, en, nt, tu⟩ := l
  exact ⟨_, h.1⟩
theorem dbOk.d {N B m : Nat} {s : DbS} (h : dbOk N B m s) : dOk N s.1 := by
  obtain ⟨d, b, le, wr, ss⟩ := s
  exact h.1
/-- the view's own object -/
def VwO (E : gE) (f : Nat → va_E) (tc : Nat) (gp : Int32) : Prop := f 25 = .inr (10, [.ref (gAd E 2), .ref (gAd E 8), .ref (gAd E 13), .ref (gAd E 17), .ref (gAd E 26), .ref (gAd E 27), .ref (gAd E 28), .ref (gAd E 29), .int (nI tc), .ref (gAd E 30), .ref (gAd E 31), .int gp])
def FmK (N B k : Nat) : Prop := LDB N B k ∨ k = 31
theorem oThen_t {m k : oM} {s : DbS} (h : (m s).1 = true) : oThen m k s = k (m s).2 := if_pos h
/-- it fails there, and this is left -/
def oX (m : oM) (s t : DbS) : Prop := (m s).1 = false ∧ (m s).2 = t
theorem oX.th {m k : oM} {s t : DbS} (h : oX m s t) : oX (oThen m k) s t := by
  have e : oThen m k s = m s := if_neg (by rw [h.1]; decide)
  unfold oX
  rw [e]
  exact h
def oSA (B : Nat) (lsc : Nat → Int32) : oM := fun s => oPl B 1 (hdRow s.1 0 0 lsc) s
def fSc (N : Nat) (sc : Nat → Int32) : Nat → Nat → Int32
  | 0 => sc
  | j + 1 => fRow N (43 + j) (fSc N sc j)
def fOps (N B : Nat) (sc : Nat → Int32) (m : oM) : Nat → oM
  | 0 => m
  | j + 1 => oThen (fOps N B sc m j) (oPl B (43 + j) (fSc N sc (j + 1)))
theorem fSc_b {N : Nat} {sc : Nat → Int32} (h : Byt sc) : ∀ j, Byt (fSc N sc j)
  | 0 => h
  | j + 1 => fRow_b (fSc_b h j)
def cfA (B : Nat) (z lsc : Nat → Int32) : oM := oThen (oThen (oThen oOk (oPl B 0 z)) (oSe B)) (oSA B lsc)
def cFmt (N B : Nat) (z lsc : Nat → Int32) : oM := oThen (oThen (oThen (fOps N B z (cfA B z lsc) 18) (oSe B)) (oPl B 0 (hRow N (fSc N z 18)))) (oSe B)
/-- in the midst of it: all of m was done -/
def FmV (E : gE) (f g : Nat → va_E) (N B : Nat) (on : Int32) (s : DbS) (m : oM) (q : Nat) (sc : Nat → Int32) (l : LgT) : Prop :=
  (m s).1 = true ∧ DBV E g N B on (m s).2 ∧ dbOk N B q (m s).2 ∧ LgV E g N l ∧ lOk N l ∧ g 31 = oB (gDA E) 128 sc ∧ Byt sc ∧ Fr (FmK N B) f g
/-- the power failed in m -/
def FmX (E : gE) (f g : Nat → va_E) (N B : Nat) (s : DbS) (m : oM) : Prop :=
  (m s).1 = false ∧ DBX E g N B (m s).2 ∧ (∃ l, LgV E g N l ∧ lOk N l) ∧ (∃ sc, g 31 = oB (gDA E) 128 sc ∧ Byt sc) ∧ Fr (FmK N B) f g
theorem FmX.th {E : gE} {f g : Nat → va_E} {N B : Nat} {s : DbS} {m k : oM} (h : FmX E f g N B s m) : FmX E f g N B s (oThen m k) := by
  obtain ⟨h1, h2, h3⟩ := h
  have e : oThen m k s = m s := if_neg (by rw [h1]; decide)
  unfold FmX
  rw [e]
  exact ⟨h1, h2, h3⟩
theorem fOps_x {E : gE} {f g : Nat → va_E} {N B : Nat} {s : DbS} {sc : Nat → Int32} {m : oM} {j : Nat} (h : FmX E f g N B s (fOps N B sc m j)) : ∀ n, FmX E f g N B s (fOps N B sc m (j + n))
  | 0 => h
  | n + 1 => (fOps_x h n).th
theorem ScK_LDB {N B k : Nat} (h : LDB N B k) : ¬ ScK k := by
  unfold LDB DBK DkK BfK LgK ScK at *
  omega
theorem FmK_0 {N B : Nat} : ¬ FmK N B 0 := by
  unfold FmK LDB DBK DkK BfK LgK
  omega
theorem FmK_25 {N B : Nat} : ¬ FmK N B 25 := by
  unfold FmK LDB DBK DkK BfK LgK
  omega
theorem DBK_31 {N B : Nat} : ¬ DBK N B 31 := by
  unfold DBK DkK BfK
  omega
theorem LDB_31 {N B : Nat} : ¬ LDB N B 31 := fun h => ScK_LDB h rfl
/-- the row is written anew -/
theorem FmV.row {E : gE} {f g u : Nat → va_E} {N B : Nat} {on : Int32} {s : DbS} {m : oM} {q : Nat} {sc sc' : Nat → Int32} {l : LgT} (h : FmV E f g N B on s m q sc l) (hu : u 31 = oB (gDA E) 128 sc') (hb : Byt sc') (hf : Fr ScK g u) : FmV E f u N B on s m q sc' l := by
  obtain ⟨h1, h2, h3, h4, h5, h6, h7, h8⟩ := h
  exact ⟨h1, h2.of (fun k hk => hf k (ScK_LDB (Or.inl hk))), h3, h4.of (fun k hk => hf k (ScK_LDB (N := N) (B := B) (Or.inr hk))), h5, hu, hb, h8.tr hf (fun k hk => Or.inr hk)⟩
theorem oThen_ok {N B q : Nat} {m k : oM} {s : DbS} (h : (m s).1 = true) (hk : dbOk N B q (k (m s).2).2) : dbOk N B q (oThen m k s).2 := by
  rw [oThen_t h]
  exact hk
theorem c_plm (E : gE) (f g : Nat → va_E) (N B : Nat) (on : Int32) (s : DbS) (m : oM) (q : Nat) (sc : Nat → Int32) (l : LgT) (hE : 350 + 2 * N + B ≤ gN E) (hN : N ≤ 1024) (h : FmV E f g N B on s m (q + 1) sc l) (t : Nat) (ht : t < N) : Ct E 8 yX0_place cX0_place 4 none [.ref (gAd E (8)), .int (nI t), .ref (gAd E (31))] g (fun v u => v = none ∧ FmV E f u N B on s (oThen m (oPl B t sc)) q sc l, fun X u => X = "java/lang/UnsupportedOperationException" ∧ FmX E f u N B s (oThen m (oPl B t sc))) := by
  obtain ⟨h1, h2, h3, h4, h5, h6, h7, h8⟩ := h
  have e : oThen m (oPl B t sc) s = oPl B t sc (m s).2 := oThen_t h1
  refine (c_pl E g N B (m s).2 on hE hN h2 (q + 1) h3 t 31 sc ht (by omega) h6 h7 DBK_31).mono (fun v u hq => ?_) (fun X u hq => ?_)
  · obtain ⟨q1, q2, q3, q4⟩ := hq
    unfold FmV
    rw [e]
    exact ⟨q1, q2, q3, oPl_ok hN h3 ht h7, h4.of (fun k hk => q4 k (LgK_DBK hk)), h5, (q4 31 DBK_31).trans h6, h7, h8.tr q4 (fun k hk => Or.inl (Or.inl hk))⟩
  · obtain ⟨q1, q2, q3, q4⟩ := hq
    unfold FmX
    rw [e]
    exact ⟨q1, q2, q3, ⟨l, h4.of (fun k hk => q4 k (LgK_DBK hk)), h5⟩, ⟨sc, (q4 31 DBK_31).trans h6, h7⟩, h8.tr q4 (fun k hk => Or.inl (Or.inl hk))⟩
theorem c_sem (E : gE) (f g : Nat → va_E) (N B : Nat) (on : Int32) (s : DbS) (m : oM) (q : Nat) (sc : Nat → Int32) (l : LgT) (hE : 350 + 2 * N + B ≤ gN E) (hN : N ≤ 1024) (h : FmV E f g N B on s m q sc l) : Ct E 8 yX0_settle cX0_settle 3 none [.ref (gAd E (8))] g (fun v u => v = none ∧ FmV E f u N B on s (oThen m (oSe B)) q sc l, fun X u => X = "java/lang/UnsupportedOperationException" ∧ FmX E f u N B s (oThen m (oSe B))) := by
  obtain ⟨h1, h2, h3, h4, h5, h6, h7, h8⟩ := h
  have e : oThen m (oSe B) s = oSe B (m s).2 := oThen_t h1
  refine (c_se E g N B (m s).2 on hE hN h2 q h3).mono (fun v u hq => ?_) (fun X u hq => ?_)
  · obtain ⟨q1, q2, q3, q4⟩ := hq
    unfold FmV
    rw [e]
    exact ⟨q1, q2, q3, oSe_ok hN h3, h4.of (fun k hk => q4 k (LgK_DBK hk)), h5, (q4 31 DBK_31).trans h6, h7, h8.tr q4 (fun k hk => Or.inl (Or.inl hk))⟩
  · obtain ⟨q1, q2, q3, q4⟩ := hq
    unfold FmX
    rw [e]
    exact ⟨q1, q2, q3, ⟨l, h4.of (fun k hk => q4 k (LgK_DBK hk)), h5⟩, ⟨sc, (q4 31 DBK_31).trans h6, h7⟩, h8.tr q4 (fun k hk => Or.inl (Or.inl hk))⟩
theorem c_sam (E : gE) (f g : Nat → va_E) (N B : Nat) (on : Int32) (s : DbS) (m : oM) (q : Nat) (sc : Nat → Int32) (l : LgT) (hE : 350 + 2 * N + B ≤ gN E) (hN : N ≤ 1024) (hN2 : 61 ≤ N) (h : FmV E f g N B on s m (q + 1) sc l) : Ct E 9 yX6_startAnew cX6_startAnew 1 none [.ref (gAd E (13))] g (fun v u => v = none ∧ FmV E f u N B on s (oThen m (oSA B l.2.1)) q sc (lHead (m s).2.1 (lTurn 0 (lClr N l))), fun X u => X = "java/lang/UnsupportedOperationException" ∧ FmX E f u N B s (oThen m (oSA B l.2.1))) := by
  obtain ⟨h1, h2, h3, h4, h5, h6, h7, h8⟩ := h
  have e : oThen m (oSA B l.2.1) s = oPl B 1 (hdRow (m s).2.1 0 0 l.2.1) (m s).2 := oThen_t h1
  have hb : Byt l.2.1 := by
    obtain ⟨bl, lsc, en, nt, tu⟩ := l
    exact h5.2.2.1
  have hl' : lOk N (lHead (m s).2.1 (lTurn 0 (lClr N l))) := lHead_ok (lTurn_ok (lClr_ok h5))
  refine (c_sa E g N B l (m s).2 on hE hN hN2 h4 h5 h2 (q + 1) h3).mono (fun v u hq => ?_) (fun X u hq => ?_)
  · obtain ⟨q1, q2, q3, q4, q5⟩ := hq
    unfold FmV
    rw [e]
    exact ⟨q1, q2, q3, oPl_ok hN h3 (by omega) (hdRow_byt hb), q4, hl', (q5 31 LDB_31).trans h6, h7, h8.tr q5 (fun k hk => Or.inl hk)⟩
  · obtain ⟨q1, q2, q3, q4, q5⟩ := hq
    unfold FmX
    rw [e]
    exact ⟨q1, q2, q3, ⟨_, q4, hl'⟩, ⟨sc, (q5 31 LDB_31).trans h6, h7⟩, h8.tr q5 (fun k hk => Or.inl hk)⟩
def tb_X11_format : List (Nat × Instr × Nat) := [(0, .aload_n 0, 1), (1, .invokevirtual 156, 3), (4, .aload_n 0, 1), (5, .getfield 87, 3), (8, .getfield 159, 3), (11, .astore_n 1, 1), (12, .aload_n 1, 1), (13, .iconst 0, 1), (14, .invokestatic 162, 3), (17, .aload_n 0, 1), (18, .getfield 56, 3), (21, .iconst 0, 1), (22, .aload_n 1, 1), (23, .invokevirtual 168, 3), (26, .aload_n 0, 1), (27, .getfield 56, 3), (30, .invokevirtual 172, 3), (33, .aload_n 0, 1), (34, .getfield 65, 3), (37, .invokevirtual 175, 3), (40, .bipush 43, 2), (42, .istore_n 2, 1), (43, .iload_n 2, 1), (44, .bipush 61, 2), (46, .if_icmp .ge 24, 3), (49, .aload_n 0, 1), (50, .iload_n 2, 1), (51, .aload_n 1, 1), (52, .invokevirtual 178, 3), (55, .aload_n 0, 1), (56, .getfield 56, 3), (59, .iload_n 2, 1), (60, .aload_n 1, 1), (61, .invokevirtual 168, 3), (64, .iinc 2 1, 3), (67, .goto (-24), 3), (70, .aload_n 0, 1), (71, .getfield 56, 3), (74, .invokevirtual 172, 3), (77, .aload_n 0, 1), (78, .aload_n 1, 1), (79, .invokevirtual 181, 3), (82, .aload_n 0, 1), (83, .getfield 56, 3), (86, .iconst 0, 1), (87, .aload_n 1, 1), (88, .invokevirtual 168, 3), (91, .aload_n 0, 1), (92, .getfield 56, 3), (95, .invokevirtual 172, 3), (98, .aload_n 0, 1), (99, .getfield 47, 3), (102, .getfield 71, 3), (105, .bipush 61, 2), (107, .isub, 1), (108, .ireturn, 1)]
theorem tv_X11_format : Tv cX11_format tb_X11_format := by
  unfold Tv
  decide +kernel
theorem w_805 : Cond.methodLink "LedgerFiles" 178 yX11_formatRow ∈ TB := tp_3 179 (by decide +kernel) rfl
theorem w_808 : Cond.code yX11_formatRow prog_1_method_9_code 4 none ∈ TB := tp_3 182 rfl rfl
theorem cw_X11_178 : Cw RX11 178 yX11_formatRow cX11_formatRow 4 none 2 := ⟨w_805, w_808, w_147, by decide +kernel, by decide +kernel, by decide⟩
theorem w_807 : Cond.instanceMethod yX11_formatRow ∈ TB := tp_3 181 (by decide +kernel) rfl
theorem w_10 : Cond.selects "LedgerFiles" yX11_formatRow yX11_formatRow ∈ TB := tp_0 10 (by decide +kernel) rfl
theorem w_717 : Cond.methodLink "LedgerFiles" 168 yX0_place ∈ TB := tp_3 91 (by decide +kernel) rfl
theorem cw_X11_168 : Cw RX11 168 yX0_place cX0_place 4 none 2 := ⟨w_717, w_720, w_152, by decide +kernel, by decide +kernel, by decide⟩
set_option maxRecDepth 100000 in
set_option maxHeartbeats 4000000 in
theorem fo_l (E : gE) (f : Nat → va_E) (sz : Nat) (A : Nat → Prop) (Qn : Option Value → (Nat → va_E) → Prop) (tp : Nat → Int32) (fd : Nat) (mo : Int32) (N B : Nat) (on : Int32) (s : DbS) (l : LgT) (tc : Nat) (gp : Int32) (sc : Nat → Int32) (hE1 : 350 + 2 * N + B ≤ gN E) (hN : N ≤ 1024) (hN2 : 128 ≤ N) (m0 : f 0 = .inr (11, [.ref (gAd E (1)), .int (nI fd), .int (mo), .ref (gAd E (2)), .ref (gAd E (8)), .ref (gAd E (13)), .ref (gAd E (17)), .ref (gAd E (25)), .ref (gAd E (37)), .ref (gAd E (32)), .ref (gAd E (40)), .ref (gAd E (41)), .ref (gAd E (44)), .ref (gAd E (47)), .ref (gAd E (50)), .ref (gAd E (53)), .ref (gAd E (54)), .ref (gAd E (55))])) (hv : VwO E f tc gp) (hbad : mo = 0 ∧ ¬ on = 0) (kq : ∀ g, FmV E f g N B on s (fOps N B (flt sc 0 128 0) (cfA B (flt sc 0 128 0) l.2.1) (18)) (1 + (18 - (18))) (fSc N (flt sc 0 128 0) (18)) (lHead ((oThen (oThen oOk (oPl B 0 (flt sc 0 128 0))) (oSe B)) s).2.1 (lTurn 0 (lClr N l))) → G E (10, yX11_format, 3, (some .int), sz, A) cX11_format (gO E (10, yX11_format, 3, (some .int), sz, A) (Qn, fun X g => (X = "java/lang/IllegalStateException" ∧ f = g ∧ ¬ (mo = 0 ∧ ¬ on = 0)) ∨ (X = "java/lang/UnsupportedOperationException" ∧ (mo = 0 ∧ ¬ on = 0) ∧ FmX E f g N B s (cFmt N B (flt sc 0 128 0) l.2.1)))) 70 [(0, .ref (gAd E (0))), (1, .ref (gAd E (31))), (2, .int (nI (43 + 18)))] [] g) : ∀ (z j : Nat), j + z = 18 → ∀ g, FmV E f g N B on s (fOps N B (flt sc 0 128 0) (cfA B (flt sc 0 128 0) l.2.1) (j)) (1 + (18 - (j))) (fSc N (flt sc 0 128 0) (j)) (lHead ((oThen (oThen oOk (oPl B 0 (flt sc 0 128 0))) (oSe B)) s).2.1 (lTurn 0 (lClr N l))) → G E (10, yX11_format, 3, (some .int), sz, A) cX11_format (gO E (10, yX11_format, 3, (some .int), sz, A) (Qn, fun X g => (X = "java/lang/IllegalStateException" ∧ f = g ∧ ¬ (mo = 0 ∧ ¬ on = 0)) ∨ (X = "java/lang/UnsupportedOperationException" ∧ (mo = 0 ∧ ¬ on = 0) ∧ FmX E f g N B s (cFmt N B (flt sc 0 128 0) l.2.1)))) 43 [(0, .ref (gAd E (0))), (1, .ref (gAd E (31))), (2, .int (nI (43 + j)))] [] g := by
  intro z
  induction z with
  | zero =>
    intro j e g V
    have e : j = 18 := e
    refine G.go tv_X11_format 2 46 [(0, .ref (gAd E (0))), (1, .ref (gAd E (31))), (2, .int (nI (43 + j)))] [.int ((61 : Int32)), .int (nI (43 + j))] rfl ?_
    refine G.cmp_ge 70 (tbd tv_X11_format rfl) (by decide) (fun c46 => ?_) (fun c46 => absurd (by rw [e]; exact (nI_le (Nat.le_refl _) (by omega) : nI 61 ≤ nI 61)) c46)
    refine G.eql [(0, .ref (gAd E (0))), (1, .ref (gAd E (31))), (2, .int (nI (43 + 18)))] (by rw [e]) ?_
    exact kq _ (e ▸ V)
  | succ z ih =>
    intro j e g V
    have V : FmV E f g N B on s (fOps N B (flt sc 0 128 0) (cfA B (flt sc 0 128 0) l.2.1) j) (1 + (18 - (j + 1)) + 1) (fSc N (flt sc 0 128 0) j) (lHead ((oThen (oThen oOk (oPl B 0 (flt sc 0 128 0))) (oSe B)) s).2.1 (lTurn 0 (lClr N l))) := by rw [show 1 + (18 - (j + 1)) + 1 = 1 + (18 - j) by omega]; exact V
    obtain ⟨faV, h8V⟩ := V.2.1.o8
    obtain ⟨fbV, h13V⟩ := V.2.2.2.1.o
    refine G.go tv_X11_format 2 46 [(0, .ref (gAd E (0))), (1, .ref (gAd E (31))), (2, .int (nI (43 + j)))] [.int ((61 : Int32)), .int (nI (43 + j))] rfl ?_
    refine G.cmp_ge 70 (tbd tv_X11_format rfl) (by decide) (fun c46 => absurd c46 ((nI_ge (by omega) (by omega) : ¬ nI 61 ≤ nI (43 + j)))) (fun c46 => ?_)
    refine G.go tv_X11_format 3 52 [(0, .ref (gAd E (0))), (1, .ref (gAd E (31))), (2, .int (nI (43 + j)))] [.ref (gAd E (31)), .int (nI (43 + j)), .ref (gAd E (0))] rfl ?_
    refine G.callV (0) [.int (nI (43 + j)), .ref (gAd E (31))] [] (c_X11_formatRow E _ tp fd mo (by omega) N ((fOps N B (flt sc 0 128 0) (cfA B (flt sc 0 128 0) l.2.1) j) s).2.1 on ((fOps N B (flt sc 0 128 0) (cfA B (flt sc 0 128 0) l.2.1) j) s).2.2.2.1 ((fOps N B (flt sc 0 128 0) (cfA B (flt sc 0 128 0) l.2.1) j) s).2.2.2.2.1 ((fOps N B (flt sc 0 128 0) (cfA B (flt sc 0 128 0) l.2.1) j) s).2.2.2.2.2 hN ((V.2.2.2.2.2.2.2 0 FmK_0).trans m0) V.2.1.dk.o (fSc N (flt sc 0 128 0) j) V.2.2.2.2.2.1 (43 + j) (by omega)) cls_X11 (by omega) ((V.2.2.2.2.2.2.2 0 FmK_0).trans m0) cw_X11_178 w_807 w_10 (Nat.le_of_ble_eq_true rfl) rfl (Nat.le_of_ble_eq_true rfl) (tbd tv_X11_format rfl) (fun v1 f1 q1 => ?_) (fun _ _ h => h.elim)
    obtain ⟨rfl, hu1, hf1⟩ := q1
    refine G.eqs [] rfl ?_
    have V1 := FmV.row V hu1 (fRow_b V.2.2.2.2.2.2.1) hf1
    obtain ⟨faV1, h8V1⟩ := V1.2.1.o8
    obtain ⟨fbV1, h13V1⟩ := V1.2.2.2.1.o
    refine G.go tv_X11_format 1 56 [(0, .ref (gAd E (0))), (1, .ref (gAd E (31))), (2, .int (nI (43 + j)))] [.ref (gAd E (0))] rfl ?_
    refine G.getf cls_X11 (0) 4 (by omega) ((V1.2.2.2.2.2.2.2 0 FmK_0).trans m0) (by decide) rfl (tbd tv_X11_format rfl) w_567 ?_
    refine G.go tv_X11_format 2 61 [(0, .ref (gAd E (0))), (1, .ref (gAd E (31))), (2, .int (nI (43 + j)))] [.ref (gAd E (31)), .int (nI (43 + j)), .ref (gAd E (8))] rfl ?_
    refine G.eqs [.ref (gAd E (31)), .int (nI (43 + j)), .ref (gAd E (8))] rfl ?_
    refine G.callV (8) [.int (nI (43 + j)), .ref (gAd E (31))] [] (c_plm E f _ N B on s (fOps N B (flt sc 0 128 0) (cfA B (flt sc 0 128 0) l.2.1) j) (1 + (18 - (j + 1))) (fRow N (43 + j) (fSc N (flt sc 0 128 0) j)) (lHead ((oThen (oThen oOk (oPl B 0 (flt sc 0 128 0))) (oSe B)) s).2.1 (lTurn 0 (lClr N l))) hE1 hN V1 (43 + j) (by omega)) cls_X0 (by omega) (h8V1) cw_X11_168 w_718 w_719 (Nat.le_of_ble_eq_true rfl) rfl (Nat.le_of_ble_eq_true rfl) (tbd tv_X11_format rfl) (fun v2 f2 q2 => ?_) (fun X g h => Or.inr ⟨h.1, hbad, by have q := fOps_x (j := j + 1) h.2 (18 - (j + 1)); rw [show j + 1 + (18 - (j + 1)) = 18 by omega] at q; exact ((q.th).th).th⟩)
    obtain ⟨rfl, V2⟩ := q2
    refine G.eqs [] rfl ?_
    obtain ⟨faV2, h8V2⟩ := V2.2.1.o8
    obtain ⟨fbV2, h13V2⟩ := V2.2.2.2.1.o
    refine G.go tv_X11_format 2 43 [(0, .ref (gAd E (0))), (1, .ref (gAd E (31))), (2, .int (nI (43 + j) + (1 : Int32)))] [] rfl ?_
    refine G.eql [(0, .ref (gAd E (0))), (1, .ref (gAd E (31))), (2, .int (nI (43 + (j + 1))))] (by rw [nI_1]; rfl) ?_
    exact ih (j + 1) (by omega) _ V2
theorem w_642 : Cond.methodLink "LedgerFiles" 156 yX11_needUnmounted ∈ TB := tp_3 16 (by decide +kernel) rfl
theorem w_645 : Cond.code yX11_needUnmounted prog_1_method_7_code 1 none ∈ TB := tp_3 19 rfl rfl
theorem cw_X11_156 : Cw RX11 156 yX11_needUnmounted cX11_needUnmounted 1 none 0 := ⟨w_642, w_645, w_147, by decide +kernel, by decide +kernel, by decide⟩
theorem w_644 : Cond.instanceMethod yX11_needUnmounted ∈ TB := tp_3 18 (by decide +kernel) rfl
theorem w_1 : Cond.selects "LedgerFiles" yX11_needUnmounted yX11_needUnmounted ∈ TB := tp_0 1 (by decide +kernel) rfl
theorem w_570 : Cond.fieldLink "LedgerFiles" 87 "LedgerFiles" "view" "LLedgerFiles$View;" ∈ TB := tp_2 184 (by decide +kernel) rfl
theorem w_421 : Cond.fieldLink "LedgerFiles" 159 "LedgerFiles$View" "scratch" "[B" ∈ TB := tp_2 35 (by decide +kernel) rfl
theorem w_761 : Cond.methodLink "LedgerFiles" 172 yX0_settle ∈ TB := tp_3 135 (by decide +kernel) rfl
theorem w_764 : Cond.code yX0_settle prog_2_method_7_code 3 none ∈ TB := tp_3 138 rfl rfl
theorem cw_X11_172 : Cw RX11 172 yX0_settle cX0_settle 3 none 0 := ⟨w_761, w_764, w_152, by decide +kernel, by decide +kernel, by decide⟩
theorem w_762 : Cond.instanceMethod yX0_settle ∈ TB := tp_3 136 (by decide +kernel) rfl
theorem w_763 : Cond.selects "LedgerFiles$Buffer" yX0_settle yX0_settle ∈ TB := tp_3 137 (by decide +kernel) rfl
theorem w_568 : Cond.fieldLink "LedgerFiles" 65 "LedgerFiles" "log" "LLedgerFiles$Log;" ∈ TB := tp_2 182 (by decide +kernel) rfl
theorem w_773 : Cond.methodLink "LedgerFiles" 175 yX6_startAnew ∈ TB := tp_3 147 (by decide +kernel) rfl
theorem w_776 : Cond.code yX6_startAnew prog_8_method_8_code 1 none ∈ TB := tp_3 150 rfl rfl
theorem cw_X11_175 : Cw RX11 175 yX6_startAnew cX6_startAnew 1 none 0 := ⟨w_773, w_776, w_153, by decide +kernel, by decide +kernel, by decide⟩
theorem w_774 : Cond.instanceMethod yX6_startAnew ∈ TB := tp_3 148 (by decide +kernel) rfl
theorem w_775 : Cond.selects "LedgerFiles$Log" yX6_startAnew yX6_startAnew ∈ TB := tp_3 149 (by decide +kernel) rfl
theorem w_809 : Cond.methodLink "LedgerFiles" 181 yX11_headRow ∈ TB := tp_3 183 (by decide +kernel) rfl
theorem w_812 : Cond.code yX11_headRow prog_1_method_10_code 2 none ∈ TB := tp_3 186 rfl rfl
theorem cw_X11_181 : Cw RX11 181 yX11_headRow cX11_headRow 2 none 1 := ⟨w_809, w_812, w_147, by decide +kernel, by decide +kernel, by decide⟩
theorem w_811 : Cond.instanceMethod yX11_headRow ∈ TB := tp_3 185 (by decide +kernel) rfl
theorem w_11 : Cond.selects "LedgerFiles" yX11_headRow yX11_headRow ∈ TB := tp_0 11 (by decide +kernel) rfl
set_option maxRecDepth 100000 in
set_option maxHeartbeats 4000000 in
theorem c_X11_format (E : gE) (f : Nat → va_E) (tp : Nat → Int32) (fd : Nat) (mo : Int32) (N B : Nat) (on : Int32) (s : DbS) (l : LgT) (tc : Nat) (gp : Int32) (sc : Nat → Int32) (hE1 : 350 + 2 * N + B ≤ gN E) (hN : N ≤ 1024) (hN2 : 128 ≤ N) (hm : MnV E f tp fd mo) (hfd : fd ≤ 1024) (hs : DBV E f N B on s) (ho : dbOk N B 21 s) (hl : LgV E f N l) (hlo : lOk N l) (hsc : f 31 = oB (gDA E) 128 sc) (hscb : Byt sc) (hv : VwO E f tc gp) : Ct E 10 yX11_format cX11_format 3 (some .int) [.ref (gAd E (0))] f (fun v g => v = some (.int (nI (N - 61))) ∧ (mo = 0 ∧ ¬ on = 0) ∧ ∃ sc' l', FmV E f g N B on s (cFmt N B (flt sc 0 128 0) l.2.1) 0 sc' l', fun X g => (X = "java/lang/IllegalStateException" ∧ f = g ∧ ¬ (mo = 0 ∧ ¬ on = 0)) ∨ (X = "java/lang/UnsupportedOperationException" ∧ (mo = 0 ∧ ¬ on = 0) ∧ FmX E f g N B s (cFmt N B (flt sc 0 128 0) l.2.1))) := by
  obtain ⟨m0, m1⟩ := id hm
  refine Ct.of (by decide) (Nat.le_of_ble_eq_true rfl) (fun sz => ?_)
  refine G.eql [(0, .ref (gAd E (0)))] rfl ?_
  refine G.go tv_X11_format 1 1 [(0, .ref (gAd E (0)))] [.ref (gAd E (0))] rfl ?_
  refine G.callV (0) [] [] (c_X11_needUnmounted E f tp fd mo (by omega) ⟨m0, m1⟩ hfd N s.1 on s.2.2.1 s.2.2.2.1 s.2.2.2.2 (by omega) hN hs.dk ho.d) cls_X11 (by omega) (m0) cw_X11_156 w_644 w_1 (Nat.le_of_ble_eq_true rfl) rfl (Nat.le_of_ble_eq_true rfl) (tbd tv_X11_format rfl) (fun v1 f1 q1 => ?_) (fun X g h => Or.inl ⟨h.1, h.2.1, h.2.2⟩)
  obtain ⟨rfl, rfl, hm0, hon⟩ := q1
  refine G.eqs [] rfl ?_
  have V0 : FmV E f f N B on s oOk 21 sc l := ⟨rfl, hs, ho, hl, hlo, hsc, hscb, Fr.rf⟩
  obtain ⟨faV0, h8V0⟩ := V0.2.1.o8
  obtain ⟨fbV0, h13V0⟩ := V0.2.2.2.1.o
  refine G.go tv_X11_format 1 5 [(0, .ref (gAd E (0)))] [.ref (gAd E (0))] rfl ?_
  refine G.getf cls_X11 (0) 7 (by omega) ((V0.2.2.2.2.2.2.2 0 FmK_0).trans m0) (by decide) rfl (tbd tv_X11_format rfl) w_570 ?_
  refine G.getf cls_X10 (25) 10 (by omega) ((V0.2.2.2.2.2.2.2 25 FmK_25).trans hv) (by decide) rfl (tbd tv_X11_format rfl) w_421 ?_
  refine G.go tv_X11_format 3 14 [(0, .ref (gAd E (0))), (1, .ref (gAd E (31)))] [.int ((0 : Int32)), .ref (gAd E (31))] rfl ?_
  refine G.callS [.ref (gAd E (31)), .int ((0 : Int32))] [] (c_J7_fill_031fb E _ 31 (128) (sc) ((0 : Int32)) (by omega) (V0.2.2.2.2.2.1) (by omega)) cw_X11_162 w_715 (Nat.le_of_ble_eq_true rfl) rfl (Nat.le_of_ble_eq_true rfl) (tbd tv_X11_format rfl) (fun v2 f2 q2 => ?_) (fun _ _ h => h.elim)
  obtain ⟨rfl, rfl⟩ := q2
  refine G.eqs [] rfl ?_
  have Vz := FmV.row V0 (up_e : (va_up (f) (31) (oB (gDA E) (128) (flt (sc) 0 (128) (0)))) 31 = oB (gDA E) 128 (flt (sc) 0 128 0)) (Byt_flt V0.2.2.2.2.2.2.1 rfl) (Fr.up Fr.rf rfl)
  obtain ⟨faVz, h8Vz⟩ := Vz.2.1.o8
  obtain ⟨fbVz, h13Vz⟩ := Vz.2.2.2.1.o
  refine G.go tv_X11_format 1 18 [(0, .ref (gAd E (0))), (1, .ref (gAd E (31)))] [.ref (gAd E (0))] rfl ?_
  refine G.getf cls_X11 (0) 4 (by omega) ((Vz.2.2.2.2.2.2.2 0 FmK_0).trans m0) (by decide) rfl (tbd tv_X11_format rfl) w_567 ?_
  refine G.go tv_X11_format 2 23 [(0, .ref (gAd E (0))), (1, .ref (gAd E (31)))] [.ref (gAd E (31)), .int ((0 : Int32)), .ref (gAd E (8))] rfl ?_
  refine G.eqs [.ref (gAd E (31)), .int (nI (0)), .ref (gAd E (8))] rfl ?_
  refine G.callV (8) [.int (nI (0)), .ref (gAd E (31))] [] (c_plm E f _ N B on s (oOk) (20) (flt (sc) 0 128 0) (l) hE1 hN Vz (0) (by omega)) cls_X0 (by omega) (h8Vz) cw_X11_168 w_718 w_719 (Nat.le_of_ble_eq_true rfl) rfl (Nat.le_of_ble_eq_true rfl) (tbd tv_X11_format rfl) (fun v3 f3 q3 => ?_) (fun X g h => Or.inr ⟨h.1, ⟨hm0, hon⟩, ((fOps_x (j := 0) ((h.2.th).th) 18).th).th.th⟩)
  obtain ⟨rfl, V3⟩ := q3
  refine G.eqs [] rfl ?_
  obtain ⟨faV3, h8V3⟩ := V3.2.1.o8
  obtain ⟨fbV3, h13V3⟩ := V3.2.2.2.1.o
  refine G.go tv_X11_format 1 27 [(0, .ref (gAd E (0))), (1, .ref (gAd E (31)))] [.ref (gAd E (0))] rfl ?_
  refine G.getf cls_X11 (0) 4 (by omega) ((V3.2.2.2.2.2.2.2 0 FmK_0).trans m0) (by decide) rfl (tbd tv_X11_format rfl) w_567 ?_
  refine G.callV (8) [] [] (c_sem E f _ N B on s (oThen (oOk) (oPl B (0) (flt (sc) 0 128 0))) (20) (flt (sc) 0 128 0) (l) hE1 hN V3) cls_X0 (by omega) (h8V3) cw_X11_172 w_762 w_763 (Nat.le_of_ble_eq_true rfl) rfl (Nat.le_of_ble_eq_true rfl) (tbd tv_X11_format rfl) (fun v4 f4 q4 => ?_) (fun X g h => Or.inr ⟨h.1, ⟨hm0, hon⟩, ((fOps_x (j := 0) (h.2.th) 18).th).th.th⟩)
  obtain ⟨rfl, V4⟩ := q4
  refine G.eqs [] rfl ?_
  obtain ⟨faV4, h8V4⟩ := V4.2.1.o8
  obtain ⟨fbV4, h13V4⟩ := V4.2.2.2.1.o
  refine G.go tv_X11_format 1 34 [(0, .ref (gAd E (0))), (1, .ref (gAd E (31)))] [.ref (gAd E (0))] rfl ?_
  refine G.getf cls_X11 (0) 5 (by omega) ((V4.2.2.2.2.2.2.2 0 FmK_0).trans m0) (by decide) rfl (tbd tv_X11_format rfl) w_568 ?_
  refine G.callV (13) [] [] (c_sam E f _ N B on s (oThen (oThen (oOk) (oPl B (0) (flt (sc) 0 128 0))) (oSe B)) (19) (flt (sc) 0 128 0) (l) hE1 hN (by omega) V4) cls_X6 (by omega) (h13V4) cw_X11_175 w_774 w_775 (Nat.le_of_ble_eq_true rfl) rfl (Nat.le_of_ble_eq_true rfl) (tbd tv_X11_format rfl) (fun v5 f5 q5 => ?_) (fun X g h => Or.inr ⟨h.1, ⟨hm0, hon⟩, ((fOps_x (j := 0) h.2 18).th).th.th⟩)
  obtain ⟨rfl, V5⟩ := q5
  refine G.eqs [] rfl ?_
  obtain ⟨faV5, h8V5⟩ := V5.2.1.o8
  obtain ⟨fbV5, h13V5⟩ := V5.2.2.2.1.o
  refine G.go tv_X11_format 2 43 [(0, .ref (gAd E (0))), (1, .ref (gAd E (31))), (2, .int ((43 : Int32)))] [] rfl ?_
  refine fo_l E f _ _ _ tp fd mo N B on s l tc gp sc hE1 hN hN2 m0 hv ⟨hm0, hon⟩ ?_ 18 0 (by omega) _ V5
  intro g V9
  obtain ⟨faV9, h8V9⟩ := V9.2.1.o8
  obtain ⟨fbV9, h13V9⟩ := V9.2.2.2.1.o
  refine G.go tv_X11_format 1 71 [(0, .ref (gAd E (0))), (1, .ref (gAd E (31))), (2, .int (nI (43 + 18)))] [.ref (gAd E (0))] rfl ?_
  refine G.getf cls_X11 (0) 4 (by omega) ((V9.2.2.2.2.2.2.2 0 FmK_0).trans m0) (by decide) rfl (tbd tv_X11_format rfl) w_567 ?_
  refine G.callV (8) [] [] (c_sem E f _ N B on s (fOps N B (flt sc 0 128 0) (cfA B (flt sc 0 128 0) l.2.1) 18) (1) (fSc N (flt sc 0 128 0) 18) (lHead ((oThen (oThen oOk (oPl B 0 (flt sc 0 128 0))) (oSe B)) s).2.1 (lTurn 0 (lClr N l))) hE1 hN V9) cls_X0 (by omega) (h8V9) cw_X11_172 w_762 w_763 (Nat.le_of_ble_eq_true rfl) rfl (Nat.le_of_ble_eq_true rfl) (tbd tv_X11_format rfl) (fun v6 f6 q6 => ?_) (fun X g h => Or.inr ⟨h.1, ⟨hm0, hon⟩, h.2.th.th⟩)
  obtain ⟨rfl, V6⟩ := q6
  refine G.eqs [] rfl ?_
  obtain ⟨faV6, h8V6⟩ := V6.2.1.o8
  obtain ⟨fbV6, h13V6⟩ := V6.2.2.2.1.o
  refine G.go tv_X11_format 2 79 [(0, .ref (gAd E (0))), (1, .ref (gAd E (31))), (2, .int (nI (43 + 18)))] [.ref (gAd E (31)), .ref (gAd E (0))] rfl ?_
  refine G.callV (0) [.ref (gAd E (31))] [] (c_X11_headRow E _ tp fd mo (by omega) N ((oThen (fOps N B (flt sc 0 128 0) (cfA B (flt sc 0 128 0) l.2.1) 18) (oSe B)) s).2.1 on ((oThen (fOps N B (flt sc 0 128 0) (cfA B (flt sc 0 128 0) l.2.1) 18) (oSe B)) s).2.2.2.1 ((oThen (fOps N B (flt sc 0 128 0) (cfA B (flt sc 0 128 0) l.2.1) 18) (oSe B)) s).2.2.2.2.1 ((oThen (fOps N B (flt sc 0 128 0) (cfA B (flt sc 0 128 0) l.2.1) 18) (oSe B)) s).2.2.2.2.2 hN ((V6.2.2.2.2.2.2.2 0 FmK_0).trans m0) V6.2.1.dk.o (fSc N (flt sc 0 128 0) 18) V6.2.2.2.2.2.1) cls_X11 (by omega) ((V6.2.2.2.2.2.2.2 0 FmK_0).trans m0) cw_X11_181 w_811 w_11 (Nat.le_of_ble_eq_true rfl) rfl (Nat.le_of_ble_eq_true rfl) (tbd tv_X11_format rfl) (fun v7 f7 q7 => ?_) (fun _ _ h => h.elim)
  obtain ⟨rfl, hu7, hf7⟩ := q7
  refine G.eqs [] rfl ?_
  have V7 := FmV.row V6 hu7 (hRow_b V6.2.2.2.2.2.2.1) hf7
  obtain ⟨faV7, h8V7⟩ := V7.2.1.o8
  obtain ⟨fbV7, h13V7⟩ := V7.2.2.2.1.o
  refine G.go tv_X11_format 1 83 [(0, .ref (gAd E (0))), (1, .ref (gAd E (31))), (2, .int (nI (43 + 18)))] [.ref (gAd E (0))] rfl ?_
  refine G.getf cls_X11 (0) 4 (by omega) ((V7.2.2.2.2.2.2.2 0 FmK_0).trans m0) (by decide) rfl (tbd tv_X11_format rfl) w_567 ?_
  refine G.go tv_X11_format 2 88 [(0, .ref (gAd E (0))), (1, .ref (gAd E (31))), (2, .int (nI (43 + 18)))] [.ref (gAd E (31)), .int ((0 : Int32)), .ref (gAd E (8))] rfl ?_
  refine G.eqs [.ref (gAd E (31)), .int (nI (0)), .ref (gAd E (8))] rfl ?_
  refine G.callV (8) [.int (nI (0)), .ref (gAd E (31))] [] (c_plm E f _ N B on s (oThen (fOps N B (flt sc 0 128 0) (cfA B (flt sc 0 128 0) l.2.1) 18) (oSe B)) (0) (hRow N (fSc N (flt sc 0 128 0) 18)) (lHead ((oThen (oThen oOk (oPl B 0 (flt sc 0 128 0))) (oSe B)) s).2.1 (lTurn 0 (lClr N l))) hE1 hN V7 (0) (by omega)) cls_X0 (by omega) (h8V7) cw_X11_168 w_718 w_719 (Nat.le_of_ble_eq_true rfl) rfl (Nat.le_of_ble_eq_true rfl) (tbd tv_X11_format rfl) (fun v8 f8 q8 => ?_) (fun X g h => Or.inr ⟨h.1, ⟨hm0, hon⟩, h.2.th⟩)
  obtain ⟨rfl, V8⟩ := q8
  refine G.eqs [] rfl ?_
  obtain ⟨faV8, h8V8⟩ := V8.2.1.o8
  obtain ⟨fbV8, h13V8⟩ := V8.2.2.2.1.o
  refine G.go tv_X11_format 1 92 [(0, .ref (gAd E (0))), (1, .ref (gAd E (31))), (2, .int (nI (43 + 18)))] [.ref (gAd E (0))] rfl ?_
  refine G.getf cls_X11 (0) 4 (by omega) ((V8.2.2.2.2.2.2.2 0 FmK_0).trans m0) (by decide) rfl (tbd tv_X11_format rfl) w_567 ?_
  refine G.callV (8) [] [] (c_sem E f _ N B on s (oThen (oThen (fOps N B (flt sc 0 128 0) (cfA B (flt sc 0 128 0) l.2.1) 18) (oSe B)) (oPl B (0) (hRow N (fSc N (flt sc 0 128 0) 18)))) (0) (hRow N (fSc N (flt sc 0 128 0) 18)) (lHead ((oThen (oThen oOk (oPl B 0 (flt sc 0 128 0))) (oSe B)) s).2.1 (lTurn 0 (lClr N l))) hE1 hN V8) cls_X0 (by omega) (h8V8) cw_X11_172 w_762 w_763 (Nat.le_of_ble_eq_true rfl) rfl (Nat.le_of_ble_eq_true rfl) (tbd tv_X11_format rfl) (fun v9 f9 q9 => ?_) (fun X g h => Or.inr ⟨h.1, ⟨hm0, hon⟩, h.2⟩)
  obtain ⟨rfl, V9⟩ := q9
  refine G.eqs [] rfl ?_
  obtain ⟨faV9, h8V9⟩ := V9.2.1.o8
  obtain ⟨fbV9, h13V9⟩ := V9.2.2.2.1.o
  refine G.go tv_X11_format 1 99 [(0, .ref (gAd E (0))), (1, .ref (gAd E (31))), (2, .int (nI (43 + 18)))] [.ref (gAd E (0))] rfl ?_
  refine G.getf cls_X11 (0) 3 (by omega) ((V9.2.2.2.2.2.2.2 0 FmK_0).trans m0) (by decide) rfl (tbd tv_X11_format rfl) w_566 ?_
  refine G.getf cls_X2 (2) 0 (by omega) (V9.2.1.dk.o) (by decide) rfl (tbd tv_X11_format rfl) w_229 ?_
  refine G.go tv_X11_format 2 108 [(0, .ref (gAd E (0))), (1, .ref (gAd E (31))), (2, .int (nI (43 + 18)))] [.int ((nI N) - ((61 : Int32)))] rfl ?_
  exact G.iret rfl rfl ⟨by rw [show (61 : Int32) = nI 61 from rfl, pk_sub (by omega)], ⟨hm0, hon⟩, _, _, V9⟩ (tbd tv_X11_format rfl)
