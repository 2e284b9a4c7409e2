section GLT
/-- throw new X("text"), the text by ldc_w -/
theorem G.thrW {E : gE} {K : gM} {cc : ByteArray} {Q : gQ} {f : Nat → va_E} {pc : Nat} {lv : List (Nat × Value)} {st : List Value} {cls text : String} {names : List String} {ik is ic : Nat} (hcls : Bundle.fit cls = true) (hnames : ∀ n ∈ names, Bundle.fit n = true)
    (hk : Cond.classLink K.2.1.cls ik cls ∈ TB) (hini : Cond.initialized cls ∈ TB) {own : String} (ho : K.2.1.cls = own) (hstr : (own, is, text) ∈ gStr) (hxc : cls ∈ gExc) (hat : ∀ w ∈ vx_atS K.2.1.cls ic cls names, w ∈ TB ∨ w = .castable cls cls ∨ w ∈ gDcl.map Cond.declares)
    (d0 : decode cc pc = .ok (.new ik, 3)) (d3 : decode cc (pc + 3) = .ok (.dup, 1)) (d4 : decode cc (pc + 4) = .ok (.ldc_w is, 3)) (d6 : decode cc (pc + 7) = .ok (.invokespecial ic, 3)) (d9 : decode cc (pc + 10) = .ok (.athrow, 1))
    (hf : names.length + 3 < K.1) (hcat : (st.map fun v => v.category).sum + (13 * (names.length + 1) + 43) ≤ 64 * K.1) (hq : Q.2 cls f) (h100 : K.1 ≤ 100 := by exact Nat.le_of_ble_eq_true rfl) : G E K cc (gO E K Q) pc lv st f := by
  intro p e s m args below meth c C H locs ls hP hD hS hl
  obtain ⟨hx, hb, hml, hrt, hown, hts, hlocks, hno, hsz, hA, hnm, hgs⟩ := id C
  subst ho
  obtain ⟨sa, hsa⟩ := hgs.2.2.2.1 _ hstr
  have good : ∀ w ∈ TB, vx_ot w = true := fun w hw => by
    have := (List.mem_filter.mp hw).2
    simp [vx_ot, this]
  have hw := vx_throwSW (p := p) (l := E.1) (e := e) (R := gR K.1) (s := s) (m := m) (args := args) (below := below) (meth := meth) (c := c) (H := H) (locs := locs) (cells := 0) (slots := 0) (free := K.2.2.2.2.2) (ls := ls) (rest := st) (Qc := fun _ _ _ _ => False) (XC := gQx E K.2.2.2.2.2 Q) (mc := 1) (ms := 6)
    hx hb hgs.2.2.2.2.1 hown hcls hnames (hts _ hk) (hts _ hini) hsa (fun w hw => (hat w hw).elim (hts w) (fun h9 => h9.elim (fun h9 => by rw [h9]; exact va_Nw.use rfl (hgs.2.2.2.2.2.2.2.1 _ hxc)) (fun h9 => by
      obtain ⟨x, hx9, rfl⟩ := List.mem_map.mp h9
      exact va_Nw.use rfl (hgs.2.2.2.2.2.2.2.2.2 _ hx9))))
    (fun w hw => by
      rcases List.mem_cons.mp hw with rfl | hw
      · exact good _ hk
      · rcases List.mem_cons.mp hw with rfl | hw
        · exact good _ hini
        · exact (hat w hw).elim (good _) (fun h9 => h9.elim (fun h9 => by rw [h9]; rfl) (fun h9 => by
          obtain ⟨x, hx9, rfl⟩ := List.mem_map.mp h9
          rfl)))
    hgs.2.1 hgs.2.2.1 hS (by rw [hl.1, hml]) d0 d3 d4 d6 d9 (fun x hx => (hno.1 h100 x hx).elim) hf hcat (Nat.le_refl _) (Nat.le_refl _) hlocks
    (fun t hvm hz hk9 => ⟨f, hq, hP.kept (fun k q hq => hk9 q.1 ((hP k q hq).lt)), ⟨Nat.le_trans hS.1 hz, fun q h1 h2 => (hk9 q (Nat.lt_of_lt_of_le h1 hS.1)).trans (hS.2.1 q h1 h2)⟩⟩) hS.2.2 (Nat.le_refl _) (Nat.le_refl _)
  intro T hT X
  obtain ⟨t2, a1, o, b1, b2, b3⟩ := hw T hT X
  rcases b3 with ⟨hf9, -⟩ | b3
  · exact hf9.elim
  · exact ⟨t2, a1, o, b1, b2, Or.inr b3⟩
end GLT
