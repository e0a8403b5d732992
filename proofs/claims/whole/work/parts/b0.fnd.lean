/-! FIND: the least MARKS -/
def Kf (m : cS) (o : Nat) (F : Nat → Nat) (p : Nat) : Nat := (tld m p o).getD (F p)
def okD (m : cS) (o : Nat) (F : Nat → Nat) : Prop := ∀ p s, isP m p s → 1 ≤ s → F p < eln m o
def okT (m : cS) (o : Nat) : Prop := ∀ p s e, isP m p s → 1 ≤ s → tld m p o = some e → e < eln m o
def CLM (m : cS) (o M : Nat) (F : Nat → Nat) (X : Nat → Option (Nat → Nat)) : Prop := SOL m o M (Kf m o F) (entV m o M (Kf m o F)) X ∧ ∀ i k f, i < acn m M → k < wnt m (40 * M + i) → X i = some f → tld m (wtp m M (40 * M + i) k) o = none → mB m o (f (wts m (40 * M + i) k)) (F (wtp m M (40 * M + i) k))
def CLF (m : cS) (o : Nat) (F : Nat → Nat) : Prop := ∀ M, isMt m M → ∃ X, CLM m o M F X
def LOW (m : cS) (o : Nat) (F : Nat → Nat) : Prop := ∀ G, okD m o G → CLF m o G → ∀ p s, isP m p s → 1 ≤ s → tld m p o = none → mB m o (F p) (G p)
def FLS (m : cS) (o : Nat) (F : Nat → Nat) : Prop := okD m o F ∧ CLF m o F ∧ LOW m o F
def upF1 (F : Nat → Nat) (p v q : Nat) : Nat := if q = p then v else F q
section FN
variable {c m : cS} {o M : Nat} {F G : Nat → Nat}
theorem FLS_eq (hL : LA o (eln m o) m) (h : FLS m o F) (h' : FLS m o G) {p s : Nat} (hp : isP m p s) (hs : 1 ≤ s) (ht : tld m p o = none) : F p = G p := LA_anti hL (h.1 p s hp hs) (h'.1 p s hp hs) (h.2.2 G h'.1 h'.2.1 p s hp hs ht) (h'.2.2 F h.1 h.2.1 p s hp hs ht)
theorem okK_of (hT : okT m o) (hF : okD m o F) : okK m o (Kf m o F) := fun p s hp hs => by
  unfold Kf
  cases ht : tld m p o with
  | none => exact hF p s hp hs
  | some e => exact hT p s e hp hs ht
theorem Kf_le (hL : LA o (eln m o) m) (hT : okT m o) (h : ∀ p s, isP m p s → 1 ≤ s → tld m p o = none → mB m o (F p) (G p)) {p s : Nat} (hp : isP m p s) (hs : 1 ≤ s) : mB m o (Kf m o F p) (Kf m o G p) := by
  unfold Kf
  cases ht : tld m p o with
  | none => exact h p s hp hs ht
  | some e => exact LA_refl hL (hT p s e hp hs ht)
/-- more MARKS, more STATES -/
theorem sol_mono {K K' : Nat → Nat} {X X' : Nat → Option (Nat → Nat)} (hX : FX c m o M K) (hX' : FX c m o M K') (hKK : ∀ p s, isP m p s → 1 ≤ s → mB m o (K p) (K' p)) (h : SOL m o M K (entV m o M K) X) (h' : SOL m o M K' (entV m o M K') X') {i : Nat} {f : Nat → Nat} (hi : i < acn m M) (hf : X i = some f) : ∃ g, X' i = some g ∧ lfF m o (8 + dpn m (40 * M + i)) f g := by
  have hL := (FX_L hX).1
  refine h.2.2 X' h'.1 ⟨?_, fun j g hj hg => ?_⟩ i f hi hf
  · obtain ⟨g, g1, g2⟩ := h'.2.1.1
    refine ⟨g, g1, fun s hs => ?_⟩
    have hn1 := (FX_L hX).2.2.2.1
    have hd0 := (RCH_0 hX.2.2.1 hX.2.2.2.1).2
    have gok := (h'.1 0 g (by omega) g1).2
    rw [hd0] at gok
    refine LA_tr hL (entV_lt hX) (entV_lt hX') (gok s (by omega)) ?_ (g2 s hs)
    unfold entV
    by_cases e : s < pM m M
    · rw [if_pos e, if_pos e]
      have h8 := isMt_8 hX.2.1 hX.2.2.2.1
      have hp := place_p hX.2.1 hX.2.2.2.1.1 hX.2.2.2.1.2 (r := s) (by rw [show 8 * (M / 8) + M % 8 = M by omega]; exact e)
      exact hKK _ _ hp (by omega)
    · rw [if_neg e, if_neg e]
      exact LA_refl hL (FX_L hX).2.2.2.2
  · obtain ⟨r1, gok⟩ := h'.1 j g hj hg
    have ha := MTS_ac hX.2.2.1 hX.2.2.2.1 hj
    have hm := tr_mono hX.1 hX.2.1 hX.2.2.2.2.1 ha.1 ha.2.2.2.2.2.2.1 (FX_L hX).2.1 r1 hX.2.2.2.2.2 hX'.2.2.2.2.2 hKK gok gok (FX_rf hX gok)
    have hok' := FX_ok hX' hj r1 gok
    obtain ⟨e1, e2⟩ := h'.2.1.2 j g hj hg
    refine ⟨fun z => ?_, fun t ht ht2 => ?_⟩
    · obtain ⟨q, q1, q2⟩ := e1 z
      obtain ⟨n1, n2, n3⟩ := RCH_nx hX.2.2.1 hX.2.2.2.1 hj r1 z
      have qok := (h'.1 _ q n1 q1).2
      rw [n3] at qok
      exact ⟨q, q1, fun s hs => LA_tr hL (hm.1 s hs) (hok'.1 s hs) (qok s hs) (hm.2.1 s hs) (q2 s hs)⟩
    · obtain ⟨q, q1, q2⟩ := e2 t ht ht2
      obtain ⟨n2, n3⟩ := RCH_lb hX.2.2.1 hX.2.2.2.1 hj r1 ht ht2
      have qok := (h'.1 _ q ht2 q1).2
      rw [n3] at qok
      exact ⟨q, q1, fun s hs => LA_tr hL (hm.2.2.1 s hs) (hok'.2 s hs) (qok s hs) (hm.2.2.2 s hs) (q2 s hs)⟩
/-- a found MARK that is raised stays low -/
theorem low_up {F1 : Nat → Nat} {X : Nat → Option (Nat → Nat)} {i k : Nat} {f : Nat → Nat} (hG : PG c m) (hT : okT m o) (ho : o < ocn m) (hM : isMt m M) (h1 : okD m o F1) (l1 : LOW m o F1) (hF : okD m o F) (l2 : LOW m o F) (hS : SOL m o M (Kf m o F1) (entV m o M (Kf m o F1)) X) (hi : i < acn m M) (hk : k < wnt m (40 * M + i)) (hf : X i = some f) (ht : tld m (wtp m M (40 * M + i) k) o = none) : okD m o (upF1 F (wtp m M (40 * M + i) k) (Jo m o (F (wtp m M (40 * M + i) k)) (f (wts m (40 * M + i) k)))) ∧ LOW m o (upF1 F (wtp m M (40 * M + i) k) (Jo m o (F (wtp m M (40 * M + i) k)) (f (wts m (40 * M + i) k)))) := by
  have fx : ∀ H, okD m o H → FX c m o M (Kf m o H) := fun H hH => ⟨hG.1.1, hG.1.2.2.1, hG.2.2, hM, ho, okK_of hT hH⟩
  have hL := (FX_L (fx F1 h1)).1
  have hac := MTS_ac hG.2.2 hM hi
  obtain ⟨s', hP, hs'⟩ := wtp_P hG.1.2.2.1 hM hac.2.2.2.2.2.2.1 hk
  obtain ⟨r1, fok⟩ := hS.1 i f hi hf
  have hw := wts_b r1 hk
  have hv := fok (wts m (40 * M + i) k) (by omega)
  have hp := hF _ _ hP hs'
  generalize hpp : wtp m M (40 * M + i) k = p at *
  obtain ⟨j1, -, j3, j4, j5⟩ := LA_J hL hp hv
  refine ⟨fun q s hq hs => ?_, fun H hH hC q s hq hs hqt => ?_⟩
  · unfold upF1
    by_cases e : q = p
    · rw [if_pos e]
      exact j1
    · rw [if_neg e]
      exact hF q s hq hs
  · unfold upF1
    by_cases e : q = p
    · rw [if_pos e, e]
      obtain ⟨XG, g1, g2⟩ := hC M hM
      obtain ⟨g, gx, gle⟩ := sol_mono (fx F1 h1) (fx H hH) (fun p s hp hs => Kf_le hL hT (fun p s hp hs ht => l1 H hH hC p s hp hs ht) hp hs) hS g1 hi hf
      have h5 := g2 i k g hi hk gx (by rw [hpp]; exact ht)
      rw [hpp] at h5
      have gok := (g1.1 i g hi gx).2 (wts m (40 * M + i) k) (by omega)
      exact j5 _ (hH _ _ hP hs') (l2 H hH hC _ _ hP hs' ht) (LA_tr hL hv gok (hH _ _ hP hs') (gle _ (by omega)) h5)
    · rw [if_neg e]
      exact l2 H hH hC q s hq hs hqt
end FN
/-- how much can still be raised -/
def sumN (g : Nat → Nat) : Nat → Nat
  | 0 => 0
  | k + 1 => sumN g k + g k
theorem sumN_le {g : Nat → Nat} {B : Nat} : ∀ k, (∀ j, j < k → g j ≤ B) → sumN g k ≤ B * k
  | 0, _ => Nat.zero_le _
  | k + 1, h => by
    have h1 := sumN_le k (fun j hj => h j (by omega))
    have h2 := h k (by omega)
    unfold sumN
    rw [Nat.mul_succ]
    omega
theorem sumN_cg {g h : Nat → Nat} : ∀ k, (∀ j, j < k → g j = h j) → sumN g k = sumN h k
  | 0, _ => rfl
  | k + 1, e => by
    unfold sumN
    rw [sumN_cg k (fun j hj => e j (by omega)), e k (by omega)]
theorem sumN_dn {g h : Nat → Nat} {p : Nat} : ∀ k, p < k → (∀ j, j ≠ p → g j = h j) → g p < h p → sumN g k < sumN h k
  | 0, hp, _, _ => by omega
  | k + 1, hp, he, hlt => by
    unfold sumN
    by_cases e : p = k
    · subst e
      rw [sumN_cg (g := g) (h := h) p (fun j hj => he j (by omega))]
      omega
    · have h1 := sumN_dn k (by omega) he hlt
      rw [he k (fun z => e z.symm)]
      omega
def ptF (m : cS) (o : Nat) (F : Nat → Nat) : Nat := sumN (fun p => 20 - hgt m o (eln m o) (F p)) 1200
theorem ptF_le {m : cS} {o : Nat} {F : Nat → Nat} : ptF m o F ≤ 24000 := by
  have := sumN_le (g := fun p => 20 - hgt m o (eln m o) (F p)) (B := 20) 1200 (fun j hj => Nat.sub_le _ _)
  unfold ptF
  omega
theorem ptF_up {m : cS} {o p v : Nat} {F : Nat → Nat} (hL : LA o (eln m o) m) (hp : p < 1200) (h1 : F p < eln m o) (h2 : v < eln m o) (hne : Jo m o (F p) v ≠ F p) : ptF m o (upF1 F p (Jo m o (F p) v)) < ptF m o F := by
  obtain ⟨j1, -, j3, -, -⟩ := LA_J hL h1 h2
  have hlt := hgt_lt hL h1 j1 j3 (fun z => hne z.symm)
  have hb : hgt m o (eln m o) (F p) ≤ eln m o := cntN_le _
  have hb2 : hgt m o (eln m o) (Jo m o (F p) v) ≤ eln m o := cntN_le _
  have h12 := hL.1.2
  refine sumN_dn 1200 hp (fun j hj => ?_) ?_
  · show 20 - hgt m o (eln m o) (upF1 F p _ j) = _
    unfold upF1
    rw [if_neg hj]
  · show 20 - hgt m o (eln m o) (upF1 F p (Jo m o (F p) v) p) < _
    unfold upF1
    rw [if_pos rfl]
    omega
