/-! ===== the run of a block is a run of the machine ===== -/
section GLC
theorem sx_iinc {p : Program} {l : Launch} {e : Env} {R : Room} {s : State} {m : MethodId} {args : Array Value} {below : List Frame} {meth : Method} {c : Code} {H : Heap} {locs : List Loc} {cells slots : Nat} {Q : State → Prop} {cc : ByteArray} {pc : Nat} {ls : Array Slot} {rest : List Value} {i nL : Nat} {n : Int} {x : Int32} {lv : List (Nat × Value)}
    (hx : p.tables.exec = Jvm.exec) (hb : c.code = cc) (d : decode cc pc = .ok (.iinc i n, 3)) (h : lv_has ls nL lv) (hg : lvg lv i = some (.int x)) (hn : i < nL)
    (kk : ∀ ls' : Array Slot, lv_has ls' nL ((i, Value.int (x + Int32.ofInt n)) :: lv.filter (fun q => !(q.1 == i) && !(q.1 + 1 == i && q.2.category == 2))) → W p l e R s m args below meth c H locs cells slots Q (F0 m (pc + 3) ls' rest)) : W p l e R s m args below meth c H locs cells slots Q (F0 m pc ls rest) := by
  have h2 : lv_has ls nL ((i, Value.int x) :: lv) := ⟨h.1, h.2.1, fun q hq => by
    rcases List.mem_cons.mp hq with rfl | hq
    · exact lvg_at h hg
    · exact h.2.2 q hq⟩
  refine lv_iinc (k := 0) hx hb d h2 rfl rfl hn rfl (fun ls' hl' => kk ls' (lv_less hl' (fun z hz => ?_)))
  rcases List.mem_cons.mp hz with rfl | hz
  · exact List.mem_cons_self
  · exact List.mem_cons_of_mem _ (List.mem_filter.mpr ⟨List.mem_cons_of_mem _ (List.mem_filter.mp hz).1, (List.mem_filter.mp hz).2⟩)
set_option maxHeartbeats 4000000 in
theorem sx_ok {E : gE} {K : gM} {cc : ByteArray} {Q : gU} {f : Nat → va_E} {i : Instr} {len pc : Nat} {lv : List (Nat × Value)} {st : List Value} {s' : gF} (d : decode cc pc = .ok (i, len)) (h : sx K.2.2.1 i len (pc, lv, st) = some s')
    (k : G E K cc Q s'.1 s'.2.1 s'.2.2 f) : G E K cc Q pc lv st f := by
  intro p e s m args below meth c C H locs ls hP hD hS hl
  have kk := k p e s m args below meth c C H locs
  have hx := C.1
  have hb := C.2.1
  unfold sx at h
  split at h
  · obtain ⟨rfl, h⟩ := sx_len h
    cases h
    exact lv_iconst hx hb d rfl (kk ls hP hD hS hl)
  · obtain ⟨rfl, h⟩ := sx_len h
    cases h
    exact lv_bipush hx hb d rfl (kk ls hP hD hS hl)
  · obtain ⟨rfl, h⟩ := sx_len h
    cases h
    exact lv_sipush hx hb d rfl (kk ls hP hD hS hl)
  · obtain ⟨rfl, h⟩ := sx_len h
    cases h
    exact lv_lconst hx hb d rfl (kk ls hP hD hS hl)
  · obtain ⟨rfl, h⟩ := sx_len h
    split at h
    · next hg => cases h; exact lv_iload_n hx hb d rfl (lvg_at hl hg) (kk ls hP hD hS hl)
    · cases h
  · obtain ⟨rfl, h⟩ := sx_len h
    split at h
    · next hg => cases h; exact lv_iload hx hb d (lvg_at hl hg) (kk ls hP hD hS hl)
    · cases h
  · obtain ⟨rfl, h⟩ := sx_len h
    split at h
    · next hg => cases h; exact lv_lload_n hx hb d rfl (lvg_at hl hg) (kk ls hP hD hS hl)
    · cases h
  · obtain ⟨rfl, h⟩ := sx_len h
    split at h
    · next hg => cases h; exact lv_lload hx hb d (lvg_at hl hg) (kk ls hP hD hS hl)
    · cases h
  · obtain ⟨rfl, h⟩ := sx_len h
    split at h
    · next hg => cases h; exact lv_aload_n hx hb d rfl (lvg_at hl hg) (kk ls hP hD hS hl)
    · cases h
  · obtain ⟨rfl, h⟩ := sx_len h
    split at h
    · next hg => cases h; exact lv_aload hx hb d (lvg_at hl hg) (kk ls hP hD hS hl)
    · cases h
  · obtain ⟨rfl, h⟩ := sx_len h
    obtain ⟨hn, h⟩ := sx_le h
    split at h
    · next he => cases h; rw [show st = _ from he]; exact lv_istore_n hx hb d rfl hl (by omega) rfl (fun ls' hl' => kk ls' hP hD hS (lv_less hl' (fun _ hz => lvq_in hz)))
    · cases h
  · obtain ⟨rfl, h⟩ := sx_len h
    obtain ⟨hn, h⟩ := sx_le h
    split at h
    · next he => cases h; rw [show st = _ from he]; exact lv_istore hx hb d hl (by omega) rfl (fun ls' hl' => kk ls' hP hD hS (lv_less hl' (fun _ hz => lvq_in hz)))
    · cases h
  · obtain ⟨rfl, h⟩ := sx_len h
    obtain ⟨hn, h⟩ := sx_le h
    split at h
    · next he => cases h; rw [show st = _ from he]; exact lv_lstore_n hx hb d rfl hl (by omega) rfl (fun ls' hl' => kk ls' hP hD hS (lv_less hl' (fun _ hz => lvq_in hz)))
    · cases h
  · obtain ⟨rfl, h⟩ := sx_len h
    obtain ⟨hn, h⟩ := sx_le h
    split at h
    · next he => cases h; rw [show st = _ from he]; exact lv_lstore hx hb d hl (by omega) rfl (fun ls' hl' => kk ls' hP hD hS (lv_less hl' (fun _ hz => lvq_in hz)))
    · cases h
  · obtain ⟨rfl, h⟩ := sx_len h
    obtain ⟨hn, h⟩ := sx_le h
    split at h
    · next he => cases h; rw [show st = _ from he]; exact lv_astore_n hx hb d rfl hl (by omega) rfl (fun ls' hl' => kk ls' hP hD hS (lv_less hl' (fun _ hz => lvq_in hz)))
    · cases h
  · obtain ⟨rfl, h⟩ := sx_len h
    obtain ⟨hn, h⟩ := sx_le h
    split at h
    · next he => cases h; rw [show st = _ from he]; exact lv_astore hx hb d hl (by omega) rfl (fun ls' hl' => kk ls' hP hD hS (lv_less hl' (fun _ hz => lvq_in hz)))
    · cases h
  · obtain ⟨rfl, h⟩ := sx_len h
    obtain ⟨hn, h⟩ := sx_le h
    split at h
    · next hg => cases h; exact sx_iinc hx hb d hl hg (by omega) (fun ls' hl' => kk ls' hP hD hS (lv_less hl' (fun _ hz => lvq_in hz)))
    · cases h
  · obtain ⟨rfl, h⟩ := sx_len h
    split at h
    · next he => cases h; rw [show st = _ from he]; exact lv_iadd hx hb d (kk ls hP hD hS hl)
    · cases h
  · obtain ⟨rfl, h⟩ := sx_len h
    split at h
    · next he => cases h; rw [show st = _ from he]; exact lv_isub hx hb d (kk ls hP hD hS hl)
    · cases h
  · obtain ⟨rfl, h⟩ := sx_len h
    split at h
    · next he => cases h; rw [show st = _ from he]; exact lv_imul hx hb d (kk ls hP hD hS hl)
    · cases h
  · obtain ⟨rfl, h⟩ := sx_len h
    split at h
    · next he => cases h; rw [show st = _ from he]; exact lv_iand hx hb d (kk ls hP hD hS hl)
    · cases h
  · obtain ⟨rfl, h⟩ := sx_len h
    split at h
    · next he => cases h; rw [show st = _ from he]; exact lv_ior hx hb d (kk ls hP hD hS hl)
    · cases h
  · obtain ⟨rfl, h⟩ := sx_len h
    split at h
    · next he => cases h; rw [show st = _ from he]; exact lv_ixor hx hb d (kk ls hP hD hS hl)
    · cases h
  · obtain ⟨rfl, h⟩ := sx_len h
    split at h
    · next he => cases h; rw [show st = _ from he]; exact lv_ishl hx hb d (kk ls hP hD hS hl)
    · cases h
  · obtain ⟨rfl, h⟩ := sx_len h
    split at h
    · next he => cases h; rw [show st = _ from he]; exact lv_ishr hx hb d (kk ls hP hD hS hl)
    · cases h
  · obtain ⟨rfl, h⟩ := sx_len h
    split at h
    · next he => cases h; rw [show st = _ from he]; exact lv_iushr hx hb d rfl (kk ls hP hD hS hl)
    · cases h
  · obtain ⟨rfl, h⟩ := sx_len h
    split at h
    · next he => cases h; rw [show st = _ from he]; exact lv_ladd hx hb d (kk ls hP hD hS hl)
    · cases h
  · obtain ⟨rfl, h⟩ := sx_len h
    split at h
    · next he => cases h; rw [show st = _ from he]; exact lv_lmul hx hb d (kk ls hP hD hS hl)
    · cases h
  · obtain ⟨rfl, h⟩ := sx_len h
    split at h
    · next he => cases h; rw [show st = _ from he]; exact lv_land hx hb d (kk ls hP hD hS hl)
    · cases h
  · obtain ⟨rfl, h⟩ := sx_len h
    split at h
    · next he => cases h; rw [show st = _ from he]; exact lv_lor hx hb d (kk ls hP hD hS hl)
    · cases h
  · obtain ⟨rfl, h⟩ := sx_len h
    split at h
    · next he => cases h; rw [show st = _ from he]; exact lv_lshl hx hb d rfl (kk ls hP hD hS hl)
    · cases h
  · obtain ⟨rfl, h⟩ := sx_len h
    split at h
    · next he => cases h; rw [show st = _ from he]; exact lv_lushr hx hb d rfl (kk ls hP hD hS hl)
    · cases h
  · obtain ⟨rfl, h⟩ := sx_len h
    split at h
    · next he => cases h; rw [show st = _ from he]; exact W.lcmp hx hb d (kk ls hP hD hS hl)
    · cases h
  · obtain ⟨rfl, h⟩ := sx_len h
    split at h
    · next he => cases h; rw [show st = _ from he]; exact lv_i2l hx hb d rfl (kk ls hP hD hS hl)
    · cases h
  · obtain ⟨rfl, h⟩ := sx_len h
    split at h
    · next he => cases h; rw [show st = _ from he]; exact lv_l2i hx hb d rfl (kk ls hP hD hS hl)
    · cases h
  · obtain ⟨rfl, h⟩ := sx_len h
    split at h
    · next he => cases h; rw [show st = _ from he]; exact lv_i2b hx hb d rfl (kk ls hP hD hS hl)
    · cases h
  · obtain ⟨rfl, h⟩ := sx_len h
    split at h
    · next he => cases h; rw [show st = _ from he]; exact lv_dup hx hb d rfl (kk ls hP hD hS hl)
    · next he => cases h; rw [show st = _ from he]; exact lv_dup hx hb d rfl (kk ls hP hD hS hl)
    · cases h
  · obtain ⟨rfl, h⟩ := sx_len h
    split at h
    · next he => cases h; rw [show st = _ from he]; exact lv_dup2_11 hx hb d rfl rfl (kk ls hP hD hS hl)
    · cases h
  · obtain ⟨rfl, h⟩ := sx_len h
    split at h
    · next he => cases h; rw [show st = _ from he]; exact lv_pop hx hb d rfl (kk ls hP hD hS hl)
    · next he => cases h; rw [show st = _ from he]; exact lv_pop hx hb d rfl (kk ls hP hD hS hl)
    · cases h
  · obtain ⟨rfl, h⟩ := sx_len h
    split at h
    · next he => cases h; exact lv_goto hx hb d he (kk ls hP hD hS hl)
    · cases h
  · cases h
def sxr (nL : Nat) (tb : List (Nat × Instr × Nat)) : Nat → gF → Option gF
  | 0, s => some s
  | n + 1, s => match tbf tb s.1 with
    | some q => match sx nL q.1 q.2 s with
      | some s' => sxr nL tb n s'
      | none => none
    | none => none
/-- n plain instructions at once -/
theorem G.run {E : gE} {K : gM} {cc : ByteArray} {Q : gU} {f : Nat → va_E} {tb : List (Nat × Instr × Nat)} (ht : Tv cc tb) : ∀ (n : Nat) {pc : Nat} {lv : List (Nat × Value)} {st : List Value} (s' : gF), sxr K.2.2.1 tb n (pc, lv, st) = some s' → G E K cc Q s'.1 s'.2.1 s'.2.2 f → G E K cc Q pc lv st f
  | 0, pc, lv, st, s', h, k => by
    cases h
    exact k
  | n + 1, pc, lv, st, s', h, k => by
    unfold sxr at h
    split at h
    · next q hq =>
      split at h
      · next s1 hs => exact sx_ok (tbd ht hq) hs (G.run ht n s' h k)
      · cases h
    · cases h
/-- fewer locals -/
theorem G.less {E : gE} {K : gM} {cc : ByteArray} {Q : gU} {f : Nat → va_E} {pc : Nat} {lv : List (Nat × Value)} {st : List Value} (lv' : List (Nat × Value)) (ks : List Nat) (hk : lv_pick lv ks = lv') (k : G E K cc Q pc lv' st f) : G E K cc Q pc lv st f :=
  fun p e s m args below meth c C H locs ls hP hD hS hl => k p e s m args below meth c C H locs ls hP hD hS (lv_sub hl ks hk)
end GLC
