/-! ===== pure: places become holes ===== -/
section PZA
variable {N B gr r u : Nat} {V V' W : Nat → Rw} {m m' : M5} {tk tk' : Nat → Bool} {A A' : MS} {D D' D2 : CfT} {R R' : RfT} {i p k a e : Nat} {X S : Nat → Prop} {ow : Nat → Int} {s0 : S3} {l : List Nat}
/-- the numbers of places -/
def pX (a e x : Nat) : Prop := ∃ q, a ≤ q ∧ q < e ∧ x = px q
theorem pX_nt {x : Nat} (h : pX a e x) : ¬ tbx x := by
  obtain ⟨q, -, -, rfl⟩ := h
  exact px_tb
theorem nt_cl (h : ∀ x, X x → ¬ tbx x) : clX X := fun y h1 h2 h3 => absurd (hx_tb h2) (h _ h3)
/-- where no table goes, it is cut as far as it is cut -/
theorem ZI.rst (hj : PJ N V i) (hnt : ∀ x, X x → ¬ tbx x) (h : ZI N m V tk i X S m' V' tk') (hi : i ≤ 64) : ZI N m V tk i S S m' V' tk' := by
  obtain ⟨h1, Z, h2, h3, h4⟩ := h
  refine ⟨fun _ h => h, Z, h2, h3, fun c o hc hz => ?_⟩
  by_cases f : FSx V i X c
  · exfalso
    obtain ⟨x, x1, x2, x3, x4, x5⟩ := hz
    obtain ⟨f0, y, y1, y2, y3⟩ := f
    by_cases c10 : x < 10
    · rw [ph_0 c10] at x4
      have := homeM_lt hi
      have := (hj.1 y y1).resolve_left (by omega)
      omega
    · rw [ph_hx (by omega) x1] at x4
      have e := hj.2 (hx x) y (by have := hx_lt x1; omega) y1 (by omega) (by omega)
      exact hnt y y2 (by rw [← e]; exact hx_tb x1)
  · exact h4 c o f hz
theorem ph_agr (e1 : W (homeM i) = V (homeM i)) (e2 : pv V i 9 ≠ 0 → W (pv V i 9) = V (pv V i 9)) {x : Nat} : ph W i x = ph V i x := by
  have ea : ∀ y, pvA W i y = pvA V i y := fun y => by
    unfold pvA f2
    rw [e1]
  have e9 : pvA V i 9 = pv V i 9 := (pv_0 (by decide)).symm
  unfold ph
  rw [ea, ea, e9]
  have et : ∀ l, pvT W (pv V i 9) l = pvT V (pv V i 9) l := fun l => by
    unfold pvT
    by_cases c : pv V i 9 = 0
    · rw [if_pos c, if_pos c]
    · rw [if_neg c, if_neg c, e2 c]
  rw [et]
theorem YZ.zs (C : CutH N V i) (hnt : ∀ x, X x → ¬ tbx x) (h : YZ N B gr R m V tk i X S) : ∃ m' V' tk', RY N B gr R m' V' tk' ∧ ZS N m V tk (FSx V i S) (ZSx V i S) m' V' tk' ∧ (∀ x, S x → ¬ tbx x) := by
  obtain ⟨m', V', tk', h1, h2⟩ := h
  exact ⟨m', V', tk', h1.1, (h2.rst C.2.2.2.2.2.2 hnt C.2.2.2.1).end, fun x hx => hnt x (h2.1 x hx)⟩
/-- a block that is not cut is told -/
theorem YZ.blk (C : CutH N V i) (hw : PW N V) (hnt : ∀ x, X x → ¬ tbx x) (h : YZ N B gr R m V tk i X S) (hp : p < 4168) (hS : ¬ S (px p)) : e_blockOf R (nI i) (nI p) = some (nI (pv V i (px p))) := by
  obtain ⟨c1, c2, c3, c4, c5, c6, c7⟩ := id C
  obtain ⟨m', V', tk', h1, h2, h3⟩ := h.zs C hnt
  have hi : ir i := ⟨c3, c4⟩
  have pw := h2.pw hw c1 c2 hi (nt_cl h3)
  rw [z_blk c1 c2 h1 (pw.pto hi) c3 c4 hp, h2.pvs hw c1 hi (nt_cl h3) hi _ (px_lt hp), if_neg (fun z => hS z.2)]
theorem YZ.cutH (C : CutH N V i) (hw : PW N V) (hnt : ∀ x, X x → ¬ tbx x) (h : YZ N B gr R m V tk i X S) (hp : p < 4168) (hX : X (px p)) (hS : ¬ S (px p)) (h0 : pv V i (px p) ≠ 0) : ∃ R' R2, e_free R (nI (pv V i (px p))) = some R' ∧ e_setHole R' (nI i) (nI p) = some R2 ∧ YZ N B gr R2 m V tk i X (fun y => S y ∨ y = px p) ∧ Fn [33] [30, 31, 32, 35, 36, 43] R R2 := by
  have hStb : ∀ x, S x → ¬ tbx x := (h.zs C hnt).choose_spec.choose_spec.choose_spec.2.2
  have hh : 10 ≤ px p → ¬ S (hx (px p)) := fun z q => hStb _ q (hx_tb (px_lt hp))
  obtain ⟨R', R2, z1, z2, z3, z4⟩ := h.cutZ C (px_lt hp) hX hS hh h0
  refine ⟨R', R2, z1, ?_, z3, z4⟩
  obtain ⟨c1, c2, c3, c4, c5, c6, c7⟩ := id C
  have hi : ir i := ⟨c3, c4⟩
  have hhm := ir_home hi
  obtain ⟨m', V', tk', h1, h2, -⟩ := h.zs C hnt
  have pw := h2.pw hw c1 c2 hi (nt_cl hStb)
  have pvs := fun y hy => h2.pvs hw c1 hi (nt_cl hStb) hi y hy
  have hpb := (c7.1 _ (px_lt hp)).resolve_left h0
  obtain ⟨R'', e', y', f'⟩ := y_free c1 c2 h1 hpb.2.1 hpb.1
  rw [z1] at e'
  injection e' with e'
  subst e'
  have z2 : e_setNumber R' (nI (ph V i (px p))) (nI (po i (px p))) 2 0 = some R2 := z2
  rw [e_setHole]
  by_cases c8 : p < 8
  · have ex : px p = p := by
      unfold px
      rw [if_pos c8]
    rw [if_neg (show ¬ (8 : Int32) ≤ nI p from nI_ge (b := 8) (by omega) (by decide)), show (12 : Int32) + 2 * nI p = nI (12 + 2 * p) by rw [show (2 : Int32) = nI 2 from rfl, pk_mul, show (12 : Int32) = nI 12 from rfl, nI_add]]
    have e1 : e_setField R' (nI i) (nI (12 + 2 * p)) 2 0 = some R2 := by
      rw [z_setFieldS c3 c4, ← z2, ex, ph_0 (by omega)]
      have : po i p = startM i + (12 + 2 * p) := by
        unfold po
        rw [if_pos c8]
        omega
      rw [this]
    exact bnd_o e1
  · have pv9 : pv V' i 9 = pv V i 9 := by
      rw [pvs 9 (by decide), if_neg (fun z => hStb _ z.2 (Or.inr (Or.inl rfl)))]
    have rs : ∀ c, 43 ≤ c → c < N → rSee R' true c = frV m' V' (pv V i (px p)) c := fun c q1 q2 => (y'.1.2 c q1 q2).1
    have fr : ∀ c, c ≠ 43 → c ≠ pv V i (px p) → frV m' V' (pv V i (px p)) c = V' c := fun c q1 q2 => by
      unfold frV
      rw [vU_n q2, vU_n q1]
    have p9 : pv V i 9 ≠ 0 → pv V i 9 ≠ pv V i (px p) := fun z zz => by
      have := c7.2 9 (px p) (by decide) (px_lt hp) z zz
      exact px_tb (p := p) (by rw [← this]; exact Or.inr (Or.inl rfl))
    have b9 : pv V i 9 ≠ 0 → 61 ≤ pv V i 9 ∧ pv V i 9 < N := fun z => ⟨((c7.1 9 (by decide)).resolve_left z).1, ((c7.1 9 (by decide)).resolve_left z).2.1⟩
    have eh : rSee R' true (homeM i) = V' (homeM i) := by
      rw [rs _ (by omega) (by omega), fr _ (by omega) (by omega)]
    have e9 : pv V' i 9 ≠ 0 → rSee R' true (pv V' i 9) = V' (pv V' i 9) := fun z => by
      rw [pv9] at z ⊢
      have := b9 z
      rw [rs _ (by omega) (by omega), fr _ (by omega) (p9 z)]
    have ephV : ph V' i (px p) = ph V i (px p) := by
      by_cases c10 : px p < 10
      · rw [ph_0 c10, ph_0 c10]
      · rw [ph_hx (by omega) (px_lt hp), ph_hx (by omega) (px_lt hp), pvs _ (by have := hx_lt (px_lt hp); omega), if_neg (fun z => hStb _ z.2 (hx_tb (px_lt hp)))]
    have et : e_tableOf R' (nI i) (nI p) = some (nI (ph V i (px p))) := by
      rw [z_tableOf y'.1.1.lk c3 c4 c8 hp (fun k hk => ?_), hd_ph hp, ph_agr eh e9, ephV]
      have hl : levM p ≤ 3 := by
        unfold levM
        split
        · decide
        · split <;> decide
      by_cases k0 : k = 0
      · rw [k0]
        show homeM i < 1024
        omega
      · have k1 : k = 1 := by omega
        have h72 : ¬ p < 72 := fun z => by
          have : levM p = 2 := by
            unfold levM
            rw [if_neg c8, if_pos z]
          omega
        rw [k1, rc_1, if_neg c8, if_neg h72]
        have q : pv (rSee R' true) i 9 = pv V i 9 := by
          rw [← pv9, pv_0 (by decide), pv_0 (by decide)]
          unfold pvA f2
          rw [eh]
        rw [q]
        by_cases z : pv V i 9 = 0
        · omega
        · have := b9 z
          omega
    rw [if_pos (show (8 : Int32) ≤ nI p from nI_le (a := 8) (by omega) (by omega)), bnd_o et]
    by_cases c72 : p < 72
    · have ex : px p = p + 2 := by
        unfold px
        rw [if_neg c8, if_pos c72]
      rw [if_neg (show ¬ (72 : Int32) ≤ nI p from nI_ge (b := 72) (by omega) (by decide)), show (2 : Int32) * (nI p - 8) = nI (2 * (p - 8)) by rw [show (8 : Int32) = nI 8 from rfl, pk_sub (by omega), show (2 : Int32) = nI 2 from rfl, pk_mul]]
      have : po i (px p) = 2 * (p - 8) := by
        rw [ex, show p + 2 = 10 + (p - 8) by omega, po_10 (by omega)]
      rw [this] at z2
      exact bnd_o z2
    · have ex : px p = p + 66 := by
        unfold px
        rw [if_neg c8, if_neg c72]
      have e64 : (nI p - 72 - (nI p - 72) / 64 * 64) = nI ((p - 72) % 64) := by
        rw [show (72 : Int32) = nI 72 from rfl, pk_sub (by omega), show (64 : Int32) = nI 64 from rfl, pk_div (by omega) (by decide) (by decide), pk_mul, pk_sub (by omega)]
        congr 1
        omega
      rw [if_pos (show (72 : Int32) ≤ nI p from nI_le (a := 72) (by omega) (by omega)), e64, show (2 : Int32) = nI 2 from rfl, pk_mul]
      have : po i (px p) = 2 * ((p - 72) % 64) := by
        rw [ex, show p + 66 = 138 + 64 * ((p - 72) / 64) + (p - 72) % 64 by omega, po_138 (by omega)]
      rw [this] at z2
      exact bnd_o z2
theorem ncM_0 : ∀ q, q ≤ a → ncM V i a q = 0 := fun q => by
  induction q with
  | zero => intro _; rfl
  | succ q ih =>
    intro hp
    show ncM V i a q + (if a ≤ q ∧ pv V i (px q) ≠ 0 then 1 else 0) = 0
    rw [ih (by omega), if_neg (by omega)]
theorem ncM_e (h : e ≤ a) : ∀ q, q ≤ e → ncM V i a q = 0 := fun q hq => ncM_0 q (by omega)
/-- the reference makes holes -/
theorem z_p110 {at1 en sz : Nat} (C : CutH N V i) (hw : PW N V) (hat : at1 ≤ en) (hen : en ≤ 400000) (hsz : sz ≤ 400000) (ha : a = bfM at1) (he : e = min (bfM sz) (en / 128)) : ∀ (n p : Nat) (R : RfT), at1 / 128 ≤ p → p < 3200 → 3200 - p < n → YZ N B gr R m V tk i (pX a e) (pX a (min p e)) → ∃ R', e_punch_110 n R (nI i) (nI at1) (nI (ncM V i a (min p e))) (nI sz) (nI en) (nI p) = e_punch_216 fuL R' (nI i) (nI at1) (nI (ncM V i a e)) (nI (min sz en)) (nI (at1 / 128)) ∧ YZ N B gr R' m V tk i (pX a e) (pX a e) ∧ Fn [33] [30, 31, 32, 35, 36, 43] R R' := by
  have hnt : ∀ x, pX a e x → ¬ tbx x := fun x hx => pX_nt hx
  intro n
  induction n with
  | zero => intro p R _ _ h; exact absurd h (Nat.not_lt_zero _)
  | succ n ih =>
    intro p R hp0 hp hn hy
    have e128 : (128 : Int32) * nI p = nI (128 * p) := by rw [show (128 : Int32) = nI 128 from rfl, pk_mul]
    have edv : nI at1 / 128 = nI (at1 / 128) := q_dv at1 (by omega)
    have fin : (if nI sz ≤ nI en then e_punch_216 fuL R (nI i) (nI at1) (nI (ncM V i a e)) (nI sz) (nI at1 / 128) else e_punch_216 fuL R (nI i) (nI at1) (nI (ncM V i a e)) (nI en) (nI at1 / 128)) = e_punch_216 fuL R (nI i) (nI at1) (nI (ncM V i a e)) (nI (min sz en)) (nI (at1 / 128)) := by
      rw [edv]
      by_cases c : sz ≤ en
      · rw [if_pos (nI_le c (by omega)), show min sz en = sz by omega]
      · rw [if_neg (nI_ge (by omega) (by omega)), show min sz en = en by omega]
    rw [e_punch_110, e128]
    by_cases c1 : sz ≤ 128 * p
    · have hpe : min p e = e := by
        unfold bfM at he
        omega
      rw [if_pos (nI_le c1 (by omega)), hpe, fin]
      rw [hpe] at hy
      exact ⟨R, rfl, hy, Fn.rf⟩
    rw [if_neg (nI_ge (by omega) (by omega))]
    by_cases c2 : en ≤ 128 * p
    · have hpe : min p e = e := by omega
      rw [if_pos (nI_le c2 (by omega)), hpe, fin]
      rw [hpe] at hy
      exact ⟨R, rfl, hy, Fn.rf⟩
    have hp4 : p < 4168 := by omega
    rw [if_neg (nI_ge (by omega) (by omega)), bnd_o (hy.blk C hw hnt hp4 (fun ⟨q, q1, q2, q3⟩ => by have := px_inj q3; omega))]
    have skip : ncM V i a (min (p + 1) e) = ncM V i a (min p e) → YZ N B gr R m V tk i (pX a e) (pX a (min (p + 1) e)) → ∃ R', e_punch_110 n R (nI i) (nI at1) (nI (ncM V i a (min p e))) (nI sz) (nI en) (nI p + 1) = e_punch_216 fuL R' (nI i) (nI at1) (nI (ncM V i a e)) (nI (min sz en)) (nI (at1 / 128)) ∧ YZ N B gr R' m V tk i (pX a e) (pX a e) ∧ Fn [33] [30, 31, 32, 35, 36, 43] R R' := fun h1 h2 => by
      have q := ih (p + 1) R (by omega) (by omega) (by omega) h2
      rw [h1] at q
      rw [nI_1]
      exact q
    by_cases cin : a ≤ p ∧ p < e
    · have m1 : min (p + 1) e = p + 1 := by omega
      have m0 : min p e = p := by omega
      have nc : ncM V i a (p + 1) = ncM V i a p + if a ≤ p ∧ pv V i (px p) ≠ 0 then 1 else 0 := rfl
      have h128 : ¬ 128 * p < at1 := by
        unfold bfM at ha
        omega
      have hen2 : 128 * p + 128 ≤ en := by omega
      by_cases c0 : pv V i (px p) = 0
      · rw [c0, nI_0, i00]
        refine skip (by rw [m1, m0, nc, if_neg (fun z => z.2 c0)]; rfl) ?_
        rw [m1]
        rw [m0] at hy
        refine (hy.skip (x := px p) ⟨p, cin.1, cin.2, rfl⟩ c0).eq (fun x _ _ => ⟨fun z => ?_, fun z => ?_⟩) (fun x ⟨q, q1, q2, q3⟩ => ⟨q, q1, by omega, q3⟩)
        · rcases z with ⟨q, q1, q2, q3⟩ | z
          · exact ⟨q, q1, by omega, q3⟩
          · exact ⟨p, cin.1, by omega, z⟩
        · obtain ⟨q, q1, q2, q3⟩ := z
          by_cases cq : q = p
          · exact Or.inr (by rw [q3, cq])
          · exact Or.inl ⟨q, q1, by omega, q3⟩
      · have hb := (C.2.2.2.2.2.2.1 _ (px_lt hp4)).resolve_left c0
        have hcN := C.2.1
        rw [if_neg (show ¬ nI (pv V i (px p)) = 0 from nI_ne0 (by omega) (by omega)), if_neg (nI_nlt (by omega) (by omega)), show (128 : Int32) = nI 128 from rfl, nI_add, if_neg (nI_nlt hen2 (by omega))]
        obtain ⟨R1, R2, z1, z2, z3, z4⟩ := hy.cutH C hw hnt hp4 ⟨p, cin.1, cin.2, rfl⟩ (fun ⟨q, q1, q2, q3⟩ => by have := px_inj q3; omega) c0
        rw [bnd_o z1, bnd_o z2, nI_1, nI_1]
        have z3' : YZ N B gr R2 m V tk i (pX a e) (pX a (min (p + 1) e)) := by
          rw [m1]
          rw [m0] at z3
          refine z3.eq (fun x _ _ => ⟨fun z => ?_, fun z => ?_⟩) (fun x ⟨q, q1, q2, q3⟩ => ⟨q, q1, by omega, q3⟩)
          · rcases z with ⟨q, q1, q2, q3⟩ | z
            · exact ⟨q, q1, by omega, q3⟩
            · exact ⟨p, cin.1, by omega, z⟩
          · obtain ⟨q, q1, q2, q3⟩ := z
            by_cases cq : q = p
            · exact Or.inr (by rw [q3, cq])
            · exact Or.inl ⟨q, q1, by omega, q3⟩
        obtain ⟨R', w1, w2, w3⟩ := ih (p + 1) R2 (by omega) (by omega) (by omega) z3'
        have enc : ncM V i a (min (p + 1) e) = ncM V i a (min p e) + 1 := by rw [m1, m0, nc, if_pos ⟨cin.1, c0⟩]
        rw [enc] at w1
        exact ⟨R', w1, w2, z4.tr w3⟩
    · have hout : 128 * p < at1 ∨ ¬ 128 * p + 128 ≤ en := by
        unfold bfM at ha he
        omega
      have hpx : pX a (min (p + 1) e) = pX a (min p e) := by
        funext x
        refine propext ⟨fun ⟨q, q1, q2, q3⟩ => ⟨q, q1, by omega, q3⟩, fun ⟨q, q1, q2, q3⟩ => ⟨q, q1, by omega, q3⟩⟩
      have hnc : ncM V i a (min (p + 1) e) = ncM V i a (min p e) := by
        by_cases cp : p < e
        · have : p < a := by omega
          rw [ncM_0 _ (by omega), ncM_0 _ (by omega)]
        · rw [show min (p + 1) e = min p e by omega]
      have sk := skip hnc (by rw [hpx]; exact hy)
      by_cases c0 : pv V i (px p) = 0
      · rw [c0, nI_0, i00]
        exact sk
      · have hb := (C.2.2.2.2.2.2.1 _ (px_lt hp4)).resolve_left c0
        have hcN := C.2.1
        rw [if_neg (show ¬ nI (pv V i (px p)) = 0 from nI_ne0 (by omega) (by omega))]
        by_cases c3 : 128 * p < at1
        · rw [if_pos (nI_lt c3 (by omega))]
          exact sk
        · rw [if_neg (nI_nlt (by omega) (by omega)), show (128 : Int32) = nI 128 from rfl, nI_add, if_pos (nI_lt (show en < 128 * p + 128 by omega) (by omega))]
          exact sk
end PZA
