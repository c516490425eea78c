/-! Pushing a replacement; what expanding is (class). -/
def addE (K : Int64 → Bool) (e : ETok) : ETok := (e.1, e.2.1, fun x => e.2.2 x || K x)
theorem or_eo {nm : Nat → Int64} {K : Int64 → Bool} {e : ETok} : eo nm e / 256 * 256 + zor (eo nm e % 256) (hs nm K : Nat) = eo nm (addE K e) := by
  have h1 := hs_lt nm e.2.2
  have h2 := hs_lt nm K
  rw [eo_mod, eo_div, zor_nat (by omega) (by omega) (by omega) (by omega), Int.toNat_natCast, Int.toNat_natCast, hs_or]
  rfl
def exArgs (f : Int → List ETok → Int × Int × List ETok) : List (List ETok) → Int → Int × Int × List (List ETok)
  | [], r => (0, r, [])
  | a :: as, r => if ¬ (f r a).1 = 0 then ((f r a).1, (f r a).2.1, []) else if 40 < ((f r a).2.2.length : Int) then (7, (f r a).2.1, []) else ((exArgs f as (f r a).2.1).1, (exArgs f as (f r a).2.1).2.1, (f r a).2.2 :: (exArgs f as (f r a).2.1).2.2)
def xcall (e : Mac) (t : ETok) (ts : List ETok) : Int × List (List ETok) × ETok × List ETok := if e.2.1 = true then fargs e ts.tail else (0, [], t, ts)
def xhid (e : Mac) (t c : ETok) (y : Int64) : Bool := (t.2.2 y && c.2.2 y) || decide (y = e.1)
def xstep (f : Int → List ETok → Int × Int × List ETok) (e : Mac) (r : Int) (t : ETok) (ts : List ETok) : Int × Int × List ETok :=
  if ¬ (xcall e t ts).1 = 0 then ((xcall e t ts).1, r, []) else if 30 ≤ r then (7, r, []) else
  if ¬ (exArgs f ((xcall e t ts).2.1.take e.2.2.1.length) (r + 1)).1 = 0 then ((exArgs f ((xcall e t ts).2.1.take e.2.2.1.length) (r + 1)).1, (exArgs f ((xcall e t ts).2.1.take e.2.2.1.length) (r + 1)).2.1, []) else
  if ¬ (mrep e (xcall e t ts).2.1 (exArgs f ((xcall e t ts).2.1.take e.2.2.1.length) (r + 1)).2.2 t.2.1).1 = 0 then ((mrep e (xcall e t ts).2.1 (exArgs f ((xcall e t ts).2.1.take e.2.2.1.length) (r + 1)).2.2 t.2.1).1, (exArgs f ((xcall e t ts).2.1.take e.2.2.1.length) (r + 1)).2.1, []) else
  (0, (exArgs f ((xcall e t ts).2.1.take e.2.2.1.length) (r + 1)).2.1, (mrep e (xcall e t ts).2.1 (exArgs f ((xcall e t ts).2.1.take e.2.2.1.length) (r + 1)).2.2 t.2.1).2.map (addE (xhid e t (xcall e t ts).2.2.1)) ++ (xcall e t ts).2.2.2)
def expL (T : List Mac) : Nat → Int → List ETok → List ETok → Int × Int × List ETok
  | 0, r, _, d => (99, r, d)
  | _ + 1, r, [], d => (0, r, d)
  | n + 1, r, t :: ts, d => if mtx T t ts < 0 then expL T n r ts (d ++ [t]) else if ¬ (xstep (fun r a => expL T n r a []) (mg T (mtx T t ts)) r t ts).1 = 0 then ((xstep (fun r a => expL T n r a []) (mg T (mtx T t ts)) r t ts).1, (xstep (fun r a => expL T n r a []) (mg T (mtx T t ts)) r t ts).2.1, d) else expL T n (xstep (fun r a => expL T n r a []) (mg T (mtx T t ts)) r t ts).2.1 (xstep (fun r a => expL T n r a []) (mg T (mtx T t ts)) r t ts).2.2 d
def EXc (q : Nat) (a : Nat) : Prop := a = 3 ∨ (33 ≤ a ∧ a ≤ 41) ∨ (43 + 5 * q ≤ a ∧ a ≤ 197)
def xpost (T : List Mac) (n : Nat) (S : w_S) (base : Int) (q : Nat) (r : Int) (l : List ETok) (v : Option Value) (S2 : w_S) : Prop := v = some (.int (iZ (expL T n r l []).1)) ∧ fr (fun a => a = 3 ∨ (33 ≤ a ∧ a ≤ 41) ∨ (43 + 5 * q ≤ a ∧ a ≤ 197)) S S2 ∧ sv S2 3 2 = (expL T n r l []).2.1 ∧ (0 ≤ sv S2 33 2 ∧ sv S2 33 2 ≤ 1360) ∧ ((expL T n r l []).1 = 0 → sv S2 33 2 = base ∧ sv S2 36 2 = sv S 36 2 + (expL T n r l []).2.2.length ∧ fw (nmT T) (sL S2 37) (sA S2 38) (sv S 36 2) (expL T n r l []).2.2 ∧ (∀ j, 0 ≤ j → j < base → sL S2 34 j = sL S 34 j ∧ sA S2 35 j = sA S 35 j) ∧ (∀ j, 0 ≤ j → j < sv S 36 2 → sL S2 37 j = sL S 37 j ∧ sA S2 38 j = sA S 38 j))
def tabok (T : List Mac) : Prop := (∀ k : Int, 0 ≤ k → k < T.length → ¬ (mg T k).1 = 0) ∧ (∀ j k : Nat, j < T.length → k < T.length → nmT T j = nmT T k → j = k)
def XLp (sc : x_S) (T : List Mac) (n : Nat) : Prop := ∀ (d : Nat) (S : w_S) (pi : Nat → Nat) (base r : Int) (q : Nat) (l : List ETok), ctab S pi T → (∀ k : Int, 0 ≤ k → k < 31 → sR S 42 k = some (43 + 5 * k.toNat)) → 0 ≤ base → sv S 33 2 = base + l.length → bw (nmT T) (sL S 34) (sA S 35) (sv S 33 2) l → loks l → sv S 3 2 = r → (q : Int) ≤ r → r ≤ 30 → 0 ≤ sv S 36 2 → sv S 33 2 + sv S 36 2 ≤ 160 + 40 * r → (l.length : Int) + 100 * (31 - r) ≤ n → 15 + 3 * (30 - q) ≤ d → w_T sc d 22 0 (x_en 0 [.ref 3, .int (iZ base), .int (iZ q)]) [] S (xpost T n S base q r l)
def sumlen : List (List ETok) → Int
  | [] => 0
  | a :: as => a.length + sumlen as
theorem sumlen_n : ∀ as : List (List ETok), 0 ≤ sumlen as
  | [] => Int.le_refl 0
  | a :: as => by
    have := sumlen_n as
    show 0 ≤ (a.length : Int) + sumlen as
    omega
theorem sumlen_app : ∀ as bs : List (List ETok), sumlen (as ++ bs) = sumlen as + sumlen bs
  | [], bs => by
    show sumlen bs = 0 + sumlen bs
    omega
  | a :: as, bs => by
    have := sumlen_app as bs
    show (a.length : Int) + sumlen (as ++ bs) = a.length + sumlen as + sumlen bs
    omega
theorem sumlen_get : ∀ (as : List (List ETok)) (k : Nat), ((as.getD k []).length : Int) ≤ sumlen as
  | [], k => by
    rw [List.getD_nil]
    exact Int.le_refl 0
  | a :: as, 0 => by
    have := sumlen_n as
    show (a.length : Int) ≤ a.length + sumlen as
    omega
  | a :: as, k + 1 => by
    have := sumlen_get as k
    show ((as.getD k []).length : Int) ≤ a.length + sumlen as
    omega
def lall (as : List (List ETok)) : Prop := ∀ a, a ∈ as → loks a
theorem lall_get {as : List (List ETok)} (h : lall as) (k : Nat) : loks (as.getD k []) := by
  rw [List.getD_eq_getElem?_getD]
  cases e : as[k]? with
  | none => exact fun x hx => absurd hx (by simp)
  | some a => exact h a (List.mem_of_getElem? e)
theorem fa_r : ∀ (l : List ETok) (n : Int) (cur : List ETok) (as : List (List ETok)) (q : List (List ETok) × ETok × List ETok), fa l n cur as = some q → q.2.2.length < l.length ∧ sumlen q.1 + q.2.2.length + 1 ≤ sumlen as + cur.length + l.length ∧ (loks l → loks cur → lall as → lall q.1 ∧ eok q.2.1 ∧ loks q.2.2)
  | [], n, cur, as, q, h => by cases h
  | t :: ts, n, cur, as, q, h => by
    by_cases h1 : n = 0 ∧ t.1 = 41
    · rw [fa_end h1] at h
      cases h
      refine ⟨by show ts.length < (t :: ts).length; simp, ?_, fun a b c => ⟨fun x hx => ?_, a t (by simp), fun x hx => a x (by simp [hx])⟩⟩
      · show sumlen (as ++ [cur]) + (ts.length : Int) + 1 ≤ sumlen as + cur.length + (t :: ts).length
        rw [sumlen_app, List.length_cons]
        show sumlen as + ((cur.length : Int) + 0) + ts.length + 1 ≤ _
        omega
      · rcases List.mem_append.mp hx with z | z
        · exact c x z
        · rw [List.mem_singleton.mp z]
          exact b
    · by_cases h2 : n = 0 ∧ t.1 = 44
      · rw [fa_comma h1 h2] at h
        have i := fa_r ts 0 [] (as ++ [cur]) q h
        rw [sumlen_app] at i
        have e : sumlen [cur] = cur.length := by show (cur.length : Int) + 0 = _; omega
        rw [e, List.length_nil] at i
        refine ⟨by rw [List.length_cons]; omega, by rw [List.length_cons]; omega, fun a b c => i.2.2 (fun x hx => a x (by simp [hx])) (fun x hx => absurd hx (by simp)) (fun x hx => ?_)⟩
        rcases List.mem_append.mp hx with z | z
        · exact c x z
        · rw [List.mem_singleton.mp z]
          exact b
      · rw [fa_in h1 h2] at h
        have i := fa_r ts _ (cur ++ [t]) as q h
        rw [List.length_append] at i
        refine ⟨by rw [List.length_cons]; omega, by rw [List.length_cons]; simp only [List.length_cons, List.length_nil] at i; omega, fun a b c => i.2.2 (fun x hx => a x (by simp [hx])) (loks_app b (fun x hx => by rw [List.mem_singleton.mp hx]; exact a t (by simp))) c⟩
theorem fargs_r {e : Mac} {l : List ETok} : 0 ≤ (fargs e l).1 ∧ (fargs e l).1 ≤ 8 ∧ ((fargs e l).1 = 0 → fa l 0 [] [] = some (fargs e l).2 ∧ fcn e l (fargs e l).2.1 (fargs e l).2.2.2 = e.2.2.1.length ∧ fbt l (fargs e l).2.2.2 ≤ 40) := by
  cases h : fa l 0 [] [] with
  | none =>
    have e1 : fargs e l = (8, [], e0, []) := by unfold fargs; rw [h]
    rw [e1]
    exact ⟨by show (0 : Int) ≤ 8; decide, by show (8 : Int) ≤ 8; decide, fun z => absurd z (by show ¬ (8 : Int) = 0; decide)⟩
  | some q =>
    have hf : fad l = q := by unfold fad; rw [h]; rfl
    have h2 : fa l 0 [] [] = some (fad l) := by rw [hf]; exact h
    rw [fargs_eq h2, hf]
    by_cases c1 : fcn e l q.1 q.2.2 = e.2.2.1.length
    · rw [if_neg (not_not_intro c1)]
      by_cases c2 : 40 < fbt l q.2.2
      · rw [if_pos c2]
        exact ⟨by show (0 : Int) ≤ 7; decide, by show (7 : Int) ≤ 8; decide, fun z => absurd z (by show ¬ (7 : Int) = 0; decide)⟩
      · rw [if_neg c2]
        exact ⟨by show (0 : Int) ≤ 0; decide, by show (0 : Int) ≤ 8; decide, fun _ => ⟨rfl, c1, by show fbt l q.2.2 ≤ 40; omega⟩⟩
    · rw [if_pos c1]
      exact ⟨by show (0 : Int) ≤ 8; decide, by show (8 : Int) ≤ 8; decide, fun z => absurd z (by show ¬ (8 : Int) = 0; decide)⟩
theorem mrep_r {e : Mac} {as os : List (List ETok)} {pl : Int} : 0 ≤ (mrep e as os pl).1 ∧ (mrep e as os pl).1 ≤ 9 ∧ ((mrep e as os pl).1 = 0 → mkr e as os pl 13 0 [] 0 = some (mrep e as os pl).2 ∧ ((mrep e as os pl).2.length : Int) ≤ 40) := by
  unfold mrep
  cases h : mkr e as os pl 13 0 [] 0 with
  | none => exact ⟨by show (0 : Int) ≤ 9; decide, by show (9 : Int) ≤ 9; decide, fun z => absurd z (by show ¬ (9 : Int) = 0; decide)⟩
  | some l =>
    show 0 ≤ (if 40 < (l.length : Int) then ((7, []) : Int × List ETok) else (0, l)).1 ∧ (if 40 < (l.length : Int) then ((7, []) : Int × List ETok) else (0, l)).1 ≤ 9 ∧ ((if 40 < (l.length : Int) then ((7, []) : Int × List ETok) else (0, l)).1 = 0 → some l = some (if 40 < (l.length : Int) then ((7, []) : Int × List ETok) else (0, l)).2 ∧ ((if 40 < (l.length : Int) then ((7, []) : Int × List ETok) else (0, l)).2.length : Int) ≤ 40)
    by_cases c : 40 < (l.length : Int)
    · rw [if_pos c]
      exact ⟨by show (0 : Int) ≤ 7; decide, by show (7 : Int) ≤ 9; decide, fun z => absurd z (by show ¬ (7 : Int) = 0; decide)⟩
    · rw [if_neg c]
      exact ⟨by show (0 : Int) ≤ 0; decide, by show (0 : Int) ≤ 9; decide, fun _ => ⟨rfl, by show (l.length : Int) ≤ 40; omega⟩⟩
theorem jrow_nil (pl : Int) (r : List ETok) : jrow pl [] r = some r := by
  cases r <;> rfl
theorem mkr_ok {e : Mac} {as os : List (List ETok)} {pl : Int} (ho : mok e) (hla : lall as) (hlo : lall os) (p0 : 0 ≤ pl) (p1 : pl ≤ 4000) : ∀ (m : Nat) (i : Int) (l : List ETok) (ch : Int) (k : List ETok), 0 ≤ i → loks l → mkr e as os pl m i l ch = some k → loks k
  | 0, i, l, ch, k, i0, hl, h => by
    cases h
    exact hl
  | m + 1, i, l, ch, k, i0, hl, h => by
    by_cases hi : i < e.2.2.2.length
    · have hb := brow_ok (pl := pl) (i := i) ho (lall_get hla) (lall_get hlo) p0 p1 i0 hi
      cases hs : mst e as os pl i l ch with
      | none =>
        rw [mkr_n hi hs] at h
        cases h
      | some l2 =>
        rw [mkr_s hi hs] at h
        refine mkr_ok ho hla hlo p0 p1 m _ l2 _ k (by have := zB_0 (pas e.2.2.2 (i + 1)); omega) ?_ h
        unfold mst at hs
        split at hs
        · rename_i c
          cases hln : l with
          | nil =>
            rw [hln, jrow_nil] at hs
            cases hs
            exact hb
          | cons y ys =>
          obtain ⟨k1, a, hka⟩ := list_snoc (l := l) (by rw [hln]; simp)
          subst hka
          clear hln
          obtain ⟨b, rs, hbr⟩ := list_cons (l := brow e as os pl i) c.2.2
          rw [hbr, jrow_eq] at hs
          have oa := hl a (by simp)
          have ob := hb b (by rw [hbr]; simp)
          cases hj : jt a.1 b.1 with
          | none =>
            rw [hj] at hs
            cases hs
          | some x =>
            rw [hj] at hs
            cases hs
            intro y hy
            rcases List.mem_append.mp hy with z | z
            · exact hl y (by simp [z])
            · rcases List.mem_cons.mp z with z | z
              · rw [z]
                exact ⟨jt_pos oa.1 ob.1 hj, p0, p1⟩
              · exact hb y (by rw [hbr]; simp [z])
        · cases hs
          exact loks_app hl hb
    · rw [mkr_0 (by omega)] at h
      cases h
      exact hl
theorem mtx_r {T : List Mac} {t : ETok} {ts : List ETok} (h : ¬ mtx T t ts < 0) : mtx T t ts = fnd T t.1 ∧ 0 ≤ fnd T t.1 ∧ fnd T t.1 < T.length ∧ t.2.2 t.1 = false ∧ (hd40 ts = true ∨ (mg T (mtx T t ts)).2.1 = false) := by
  have hf := fnd_r T t.1
  unfold mtx at h ⊢
  by_cases c : fnd T t.1 < 0 ∨ t.2.2 t.1 = true
  · rw [if_pos c] at h
    exact absurd (by decide) h
  · rw [if_neg c] at h ⊢
    by_cases c2 : hd40 ts = true ∨ (mg T (fnd T t.1)).2.1 = false
    · rw [if_pos c2]
      have c3 : t.2.2 t.1 = false := by
        cases hh : t.2.2 t.1
        · rfl
        · exact absurd (Or.inr hh) c
      exact ⟨rfl, by omega, by omega, c3, c2⟩
    · rw [if_neg c2] at h
      exact absurd (by decide) h
section XR
variable {f : Int → List ETok → Int × Int × List ETok}
theorem exArgs_r (hf : ∀ r a, r ≤ 30 → 0 ≤ (f r a).1 ∧ (f r a).1 ≤ 99 ∧ r ≤ (f r a).2.1 ∧ (f r a).2.1 ≤ 30) : ∀ (as : List (List ETok)) (r : Int), r ≤ 30 → 0 ≤ (exArgs f as r).1 ∧ (exArgs f as r).1 ≤ 99 ∧ r ≤ (exArgs f as r).2.1 ∧ (exArgs f as r).2.1 ≤ 30 ∧ ((exArgs f as r).1 = 0 → (exArgs f as r).2.2.length = as.length ∧ ∀ k, ((exArgs f as r).2.2.getD k []).length ≤ 40)
  | [], r, h => ⟨Int.le_refl 0, by show (0 : Int) ≤ 99; decide, Int.le_refl r, h, fun _ => ⟨rfl, fun k => by show (([] : List (List ETok)).getD k []).length ≤ 40; rw [List.getD_nil]; simp⟩⟩
  | a :: as, r, h => by
    have h1 := hf r a h
    have i := exArgs_r hf as (f r a).2.1 h1.2.2.2
    by_cases c1 : (f r a).1 = 0
    · by_cases c2 : 40 < ((f r a).2.2.length : Int)
      · have e : exArgs f (a :: as) r = (7, (f r a).2.1, []) := by
          show (if ¬ (f r a).1 = 0 then _ else if 40 < ((f r a).2.2.length : Int) then _ else _) = _
          rw [if_neg (not_not_intro c1), if_pos c2]
        rw [e]
        exact ⟨by show (0 : Int) ≤ 7; decide, by show (7 : Int) ≤ 99; decide, h1.2.2.1, h1.2.2.2, fun z => absurd z (by show ¬ (7 : Int) = 0; decide)⟩
      · have e : exArgs f (a :: as) r = ((exArgs f as (f r a).2.1).1, (exArgs f as (f r a).2.1).2.1, (f r a).2.2 :: (exArgs f as (f r a).2.1).2.2) := by
          show (if ¬ (f r a).1 = 0 then _ else if 40 < ((f r a).2.2.length : Int) then _ else _) = _
          rw [if_neg (not_not_intro c1), if_neg c2]
        rw [e]
        refine ⟨i.1, i.2.1, Int.le_trans h1.2.2.1 i.2.2.1, i.2.2.2.1, fun z => ⟨by show ((f r a).2.2 :: (exArgs f as (f r a).2.1).2.2).length = (a :: as).length; rw [List.length_cons, List.length_cons, (i.2.2.2.2 z).1], fun k => ?_⟩⟩
        cases k with
        | zero =>
          show (f r a).2.2.length ≤ 40
          omega
        | succ k => exact (i.2.2.2.2 z).2 k
    · have e : exArgs f (a :: as) r = ((f r a).1, (f r a).2.1, []) := by
        show (if ¬ (f r a).1 = 0 then _ else _) = _
        rw [if_pos c1]
      rw [e]
      exact ⟨h1.1, h1.2.1, h1.2.2.1, h1.2.2.2, fun z => absurd z c1⟩
theorem exArgs_ok (hf : ∀ r a, r ≤ 30 → 0 ≤ (f r a).1 ∧ (f r a).1 ≤ 99 ∧ r ≤ (f r a).2.1 ∧ (f r a).2.1 ≤ 30) (hg : ∀ r a, r ≤ 30 → (f r a).1 = 0 → loks a → loks (f r a).2.2) : ∀ (as : List (List ETok)) (r : Int), r ≤ 30 → lall as → (exArgs f as r).1 = 0 → lall (exArgs f as r).2.2
  | [], r, h, _, _ => fun x hx => by
    replace hx : x ∈ ([] : List (List ETok)) := hx
    exact absurd hx (by simp)
  | a :: as, r, h, ha, hz => by
    have h1 := hf r a h
    by_cases c1 : (f r a).1 = 0
    · by_cases c2 : 40 < ((f r a).2.2.length : Int)
      · have e : exArgs f (a :: as) r = (7, (f r a).2.1, []) := by
          show (if ¬ (f r a).1 = 0 then _ else if 40 < ((f r a).2.2.length : Int) then _ else _) = _
          rw [if_neg (not_not_intro c1), if_pos c2]
        rw [e] at hz
        exact absurd hz (by show ¬ (7 : Int) = 0; decide)
      · have e : exArgs f (a :: as) r = ((exArgs f as (f r a).2.1).1, (exArgs f as (f r a).2.1).2.1, (f r a).2.2 :: (exArgs f as (f r a).2.1).2.2) := by
          show (if ¬ (f r a).1 = 0 then _ else if 40 < ((f r a).2.2.length : Int) then _ else _) = _
          rw [if_neg (not_not_intro c1), if_neg c2]
        rw [e] at hz ⊢
        have i := exArgs_ok hf hg as (f r a).2.1 h1.2.2.2 (fun x hx => ha x (by simp [hx])) hz
        intro x hx
        rcases List.mem_cons.mp hx with z | z
        · rw [z]
          exact hg r a h c1 (ha a (by simp))
        · exact i x z
    · have e : exArgs f (a :: as) r = ((f r a).1, (f r a).2.1, []) := by
        show (if ¬ (f r a).1 = 0 then _ else _) = _
        rw [if_pos c1]
      rw [e] at hz
      exact absurd hz c1
/-- what a call gives: shorter than what stood there -/
theorem xcall_r {e : Mac} {t : ETok} {ts : List ETok} (ho : mok e) (hc : e.2.1 = true → hd40 ts = true) : 0 ≤ (xcall e t ts).1 ∧ (xcall e t ts).1 ≤ 8 ∧ ((xcall e t ts).1 = 0 → (xcall e t ts).2.2.2.length ≤ ts.length ∧ sumlen (xcall e t ts).2.1 ≤ 40 ∧ (e.2.2.1.length ≤ (xcall e t ts).2.1.length) ∧ (eok t → loks ts → lall (xcall e t ts).2.1 ∧ eok (xcall e t ts).2.2.1 ∧ loks (xcall e t ts).2.2.2)) := by
  unfold xcall
  by_cases c : e.2.1 = true
  · rw [if_pos c]
    have h := fargs_r (e := e) (l := ts.tail)
    refine ⟨h.1, h.2.1, fun z => ?_⟩
    have h2 := h.2.2 z
    have g := fa_r _ _ _ _ _ h2.1
    have ht : (ts.tail.length : Int) ≤ ts.length := by rw [List.length_tail]; omega
    have e1 : sumlen ([] : List (List ETok)) = 0 := rfl
    rw [e1] at g
    simp only [List.length_nil] at g
    have hb := h2.2.2
    unfold fbt at hb
    refine ⟨by omega, by omega, ?_, fun a b => ?_⟩
    · have hf := h2.2.1
      unfold fcn at hf
      split at hf
      · omega
      · omega
    · have k := g.2.2 (fun x hx => b x (List.mem_of_mem_tail hx)) (fun x hx => absurd hx (by simp)) (fun x hx => absurd hx (by simp))
      exact k
  · rw [if_neg c]
    have hp : e.2.2.1 = [] := ho.2.2.1 (by simpa using c)
    refine ⟨Int.le_refl 0, by show (0 : Int) ≤ 8; decide, fun _ => ⟨Nat.le_refl _, by show (0 : Int) ≤ 40; decide, by rw [hp]; exact Nat.le_refl 0, fun a b => ⟨fun x hx => ?_, a, b⟩⟩⟩
    replace hx : x ∈ ([] : List (List ETok)) := hx
    exact absurd hx (by simp)
theorem xstep_r {e : Mac} {r : Int} {t : ETok} {ts : List ETok} (ho : mok e) (hc : e.2.1 = true → hd40 ts = true) (hr : r ≤ 30) (hf : ∀ r a, r ≤ 30 → 0 ≤ (f r a).1 ∧ (f r a).1 ≤ 99 ∧ r ≤ (f r a).2.1 ∧ (f r a).2.1 ≤ 30) : 0 ≤ (xstep f e r t ts).1 ∧ (xstep f e r t ts).1 ≤ 99 ∧ r ≤ (xstep f e r t ts).2.1 ∧ (xstep f e r t ts).2.1 ≤ 30 ∧ ((xstep f e r t ts).1 = 0 → r + 1 ≤ (xstep f e r t ts).2.1 ∧ ((xstep f e r t ts).2.2.length : Int) ≤ 40 + ts.length ∧ ((∀ r a, r ≤ 30 → (f r a).1 = 0 → loks a → loks (f r a).2.2) → eok t → loks ts → loks (xstep f e r t ts).2.2)) := by
  have hx := xcall_r (t := t) ho hc
  unfold xstep
  by_cases c1 : (xcall e t ts).1 = 0
  · rw [if_neg (not_not_intro c1)]
    have hx2 := hx.2.2 c1
    by_cases c2 : 30 ≤ r
    · rw [if_pos c2]
      exact ⟨by show (0 : Int) ≤ 7; decide, by show (7 : Int) ≤ 99; decide, Int.le_refl r, hr, fun z => absurd z (by show ¬ (7 : Int) = 0; decide)⟩
    · rw [if_neg c2]
      have ha := exArgs_r hf ((xcall e t ts).2.1.take e.2.2.1.length) (r + 1) (by omega)
      by_cases c3 : (exArgs f ((xcall e t ts).2.1.take e.2.2.1.length) (r + 1)).1 = 0
      · rw [if_neg (not_not_intro c3)]
        have hm := mrep_r (e := e) (as := (xcall e t ts).2.1) (os := (exArgs f ((xcall e t ts).2.1.take e.2.2.1.length) (r + 1)).2.2) (pl := t.2.1)
        by_cases c4 : (mrep e (xcall e t ts).2.1 (exArgs f ((xcall e t ts).2.1.take e.2.2.1.length) (r + 1)).2.2 t.2.1).1 = 0
        · rw [if_neg (not_not_intro c4)]
          refine ⟨Int.le_refl 0, by show (0 : Int) ≤ 99; decide, by show r ≤ (exArgs f _ (r + 1)).2.1; omega, ha.2.2.2.1, fun _ => ⟨ha.2.2.1, ?_, fun hg ot ol => ?_⟩⟩
          · show (((mrep e (xcall e t ts).2.1 (exArgs f ((xcall e t ts).2.1.take e.2.2.1.length) (r + 1)).2.2 t.2.1).2.map (addE (xhid e t (xcall e t ts).2.2.1)) ++ (xcall e t ts).2.2.2).length : Int) ≤ _
            rw [List.length_append, List.length_map]
            have := (hm.2.2 c4).2
            omega
          · have hq := hx2.2.2.2 ot ol
            have hla := exArgs_ok hf hg _ (r + 1) (by omega) (fun x hx => hq.1 x (List.mem_of_mem_take hx)) c3
            have hk := mkr_ok ho hq.1 hla ot.2.1 ot.2.2 13 0 [] 0 _ (Int.le_refl 0) (fun x hx => absurd hx (by simp)) (hm.2.2 c4).1
            refine loks_app (fun x hx => ?_) hq.2.2
            obtain ⟨y, hy, rfl⟩ := List.mem_map.mp hx
            exact hk y hy
        · rw [if_pos c4]
          exact ⟨hm.1, by show (mrep _ _ _ _).1 ≤ 99; omega, by show r ≤ (exArgs f _ (r + 1)).2.1; omega, ha.2.2.2.1, fun z => absurd z c4⟩
      · rw [if_pos c3]
        exact ⟨ha.1, ha.2.1, by show r ≤ (exArgs f _ (r + 1)).2.1; omega, ha.2.2.2.1, fun z => absurd z c3⟩
  · rw [if_pos c1]
    exact ⟨hx.1, by show (xcall e t ts).1 ≤ 99; omega, Int.le_refl r, hr, fun z => absurd z c1⟩
end XR
theorem expL_nil (T : List Mac) (n : Nat) (r : Int) (d : List ETok) : expL T (n + 1) r [] d = (0, r, d) := rfl
theorem expL_mv {T : List Mac} {n : Nat} {r : Int} {t : ETok} {ts d : List ETok} (h : mtx T t ts < 0) : expL T (n + 1) r (t :: ts) d = expL T n r ts (d ++ [t]) := by
  show (if mtx T t ts < 0 then _ else _) = _
  rw [if_pos h]
theorem expL_bad {T : List Mac} {n : Nat} {r : Int} {t : ETok} {ts d : List ETok} (h : ¬ mtx T t ts < 0) (hs : ¬ (xstep (fun r a => expL T n r a []) (mg T (mtx T t ts)) r t ts).1 = 0) : expL T (n + 1) r (t :: ts) d = ((xstep (fun r a => expL T n r a []) (mg T (mtx T t ts)) r t ts).1, (xstep (fun r a => expL T n r a []) (mg T (mtx T t ts)) r t ts).2.1, d) := by
  show (if mtx T t ts < 0 then _ else if ¬ (xstep _ _ _ _ _).1 = 0 then _ else _) = _
  rw [if_neg h, if_pos hs]
theorem expL_go {T : List Mac} {n : Nat} {r : Int} {t : ETok} {ts d : List ETok} (h : ¬ mtx T t ts < 0) (hs : (xstep (fun r a => expL T n r a []) (mg T (mtx T t ts)) r t ts).1 = 0) : expL T (n + 1) r (t :: ts) d = expL T n (xstep (fun r a => expL T n r a []) (mg T (mtx T t ts)) r t ts).2.1 (xstep (fun r a => expL T n r a []) (mg T (mtx T t ts)) r t ts).2.2 d := by
  show (if mtx T t ts < 0 then _ else if ¬ (xstep _ _ _ _ _).1 = 0 then _ else _) = _
  rw [if_neg h, if_neg (not_not_intro hs)]
theorem expL_r {T : List Mac} (hT : ∀ k : Int, 0 ≤ k → k < T.length → mok (mg T k)) : ∀ (n : Nat) (r : Int) (l d : List ETok), r ≤ 30 → 0 ≤ (expL T n r l d).1 ∧ (expL T n r l d).1 ≤ 99 ∧ r ≤ (expL T n r l d).2.1 ∧ (expL T n r l d).2.1 ≤ 30 ∧ ((expL T n r l d).1 = 0 → ((expL T n r l d).2.2.length : Int) ≤ d.length + l.length + 40 * ((expL T n r l d).2.1 - r) ∧ (loks l → loks d → loks (expL T n r l d).2.2))
  | 0, r, l, d, h => ⟨by show (0 : Int) ≤ 99; decide, by show (99 : Int) ≤ 99; decide, Int.le_refl r, h, fun z => absurd z (by show ¬ (99 : Int) = 0; decide)⟩
  | n + 1, r, [], d, h => ⟨Int.le_refl 0, by show (0 : Int) ≤ 99; decide, Int.le_refl r, h, fun _ => ⟨by show (d.length : Int) ≤ d.length + ([] : List ETok).length + 40 * (r - r); rw [List.length_nil]; omega, fun _ a => a⟩⟩
  | n + 1, r, t :: ts, d, h => by
    by_cases c : mtx T t ts < 0
    · rw [expL_mv c]
      have i := expL_r hT n r ts (d ++ [t]) h
      refine ⟨i.1, i.2.1, i.2.2.1, i.2.2.2.1, fun z => ⟨?_, fun a b => (i.2.2.2.2 z).2 (fun x hx => a x (by simp [hx])) (loks_app b (fun x hx => by rw [List.mem_singleton.mp hx]; exact a t (by simp)))⟩⟩
      have := (i.2.2.2.2 z).1
      rw [List.length_append] at this
      simp only [List.length_cons, List.length_nil] at this ⊢
      omega
    · have m := mtx_r c
      have hf : ∀ r a, r ≤ 30 → 0 ≤ (expL T n r a []).1 ∧ (expL T n r a []).1 ≤ 99 ∧ r ≤ (expL T n r a []).2.1 ∧ (expL T n r a []).2.1 ≤ 30 := fun r a hr => by
        have i := expL_r hT n r a [] hr
        exact ⟨i.1, i.2.1, i.2.2.1, i.2.2.2.1⟩
      have x := xstep_r (f := fun r a => expL T n r a []) (e := mg T (mtx T t ts)) (t := t) (ts := ts) (hT _ (by omega) (by omega)) (fun z => m.2.2.2.2.resolve_right (by rw [z]; decide)) h hf
      by_cases s : (xstep (fun r a => expL T n r a []) (mg T (mtx T t ts)) r t ts).1 = 0
      · rw [expL_go c s]
        have i := expL_r hT n _ (xstep (fun r a => expL T n r a []) (mg T (mtx T t ts)) r t ts).2.2 d x.2.2.2.1
        have x2 := x.2.2.2.2 s
        refine ⟨i.1, i.2.1, by omega, i.2.2.2.1, fun z => ⟨?_, fun a b => (i.2.2.2.2 z).2 (x2.2.2 (fun r a hr hz ha => ((expL_r hT n r a [] hr).2.2.2.2 hz).2 ha (fun x hx => absurd hx (by simp))) (a t (by simp)) (fun x hx => a x (by simp [hx]))) b⟩⟩
        have := (i.2.2.2.2 z).1
        simp only [List.length_cons]
        omega
      · rw [expL_bad c s]
        exact ⟨x.1, x.2.1, x.2.2.1, x.2.2.2.1, fun z => absurd z s⟩
theorem ctab_fr {c : Nat → Prop} {S S2 : w_S} {pi : Nat → Nat} {T : List Mac} (h : ctab S pi T) (f : fr c S S2) (hc : ∀ a, 4 ≤ a → a < 30 → ¬ c a) : ctab S2 pi T := by
  refine ⟨by rw [fr_gv f (hc 4 (by decide) (by decide))]; exact h.1, h.2.1, h.2.2.1, h.2.2.2.1, by rw [fr_gR f (hc 5 (by decide) (by decide))]; exact h.2.2.2.2.1, fun k k0 k1 => ?_⟩
  have h8 := h.2.2.1 k.toNat (by have := h.2.1; omega)
  exact ⟨cmac_fr (h.2.2.2.2.2 k k0 k1).1 f (hc _ (by omega) (by omega)) (hc _ (by omega) (by omega)) (hc _ (by omega) (by omega)), (h.2.2.2.2.2 k k0 k1).2⟩
theorem c_push_c {sc : x_S} {d : Nat} {S : w_S} {T : List Mac} {K : Int64 → Bool} {hd2 : Int} {l : List ETok} (hh : hd2 = (hs (nmT T) K : Nat)) (hz : sv S 39 2 = l.length) (hw : fw (nmT T) (sL S 40) (sA S 41) 0 l) (hlk : loks l) (hl : (l.length : Int) ≤ 40) (P0 : 0 ≤ sv S 33 2) (hP : sv S 33 2 + l.length ≤ 1360) (hd : 1 ≤ d) : ∀ n : Nat, (∀ (i : Int) (ka : List ETok) (kb : List ETok) (U : w_S) (lv : x_L) (l0 : lv 0 = some (.ref 3)) (l1 : lv 1 = some (.int (iZ hd2))) (l2 : lv 2 = some (.int (iZ i))) (hfr : fr (fun a => a = 33 ∨ a = 34 ∨ a = 35) S U) (hsp : l = ka ++ kb) (hka : (ka.length : Int) = i + 1) (hzz : sv U 33 2 = sv S 33 2 + kb.length) (hb : bw (nmT T) (sL U 34) (sA U 35) (sv U 33 2) (kb.map (addE K))) (hlow : ∀ j, j < sv S 33 2 → sL U 34 j = sL S 34 j ∧ sA U 35 j = sA S 35 j) (hm : (i + 1).toNat < n), w_T sc d 29 10 lv [] U (fun v S2 => v = none ∧ fr (fun a => a = 33 ∨ a = 34 ∨ a = 35) S S2 ∧ sv S2 33 2 = sv S 33 2 + l.length ∧ bw (nmT T) (sL S2 34) (sA S2 35) (sv S 33 2 + l.length) (l.map (addE K)) ∧ ∀ j, j < sv S 33 2 → sL S2 34 j = sL S 34 j ∧ sA S2 35 j = sA S 35 j)) := by
  intro n
  induction n with
  | zero => exact fun i ka kb U lv l0 l1 l2 hfr hsp hka hzz hb hlow hm => absurd hm (Nat.not_lt_zero _)
  | succ n ih =>
    intro i ka kb U lv l0 l1 l2 hfr hsp hka hzz hb hlow hm
    have hll : (l.length : Int) = ka.length + kb.length := by rw [hsp, List.length_append]; omega
    refine w_iload_n rfl l2 rfl ?_
    refine w_if_lt (pc2 := 56) (pc3 := 14) rfl (by decide) rfl ⟨by omega, by omega⟩ (fun c11 => ?_) (fun c11 => ?_)
    · skip
      refine w_vret rfl rfl ?_
      have hn : ka = [] := List.eq_nil_of_length_eq_zero (by omega)
      rw [hn, List.nil_append] at hsp
      rw [← hsp] at hb hzz
      exact ⟨rfl, hfr, hzz, by rw [← hzz]; exact hb, hlow⟩
    · skip
      obtain ⟨k1, x, rfl⟩ := list_snoc (l := ka) (by omega)
      rw [List.length_append] at hka
      have hka2 : (k1.length : Int) = i := by simp at hka; omega
      have hl3 : (l.length : Int) = k1.length + 1 + kb.length := by rw [hsp, List.length_append, List.length_append]; simp only [List.length_cons, List.length_nil]; omega
      have hx : sL S 40 i = x.1 ∧ sA S 41 i = eo (nmT T) x := by
        rw [hsp, List.append_assoc] at hw
        have := ((fw_app k1 _ 0).mp hw).2
        rw [Int.zero_add, hka2] at this
        exact ⟨this.1, this.2.1⟩
      have hxo : eok x := hlk x (by rw [hsp]; simp)
      have hxr := eo_R (nm := nmT T) hxo.2.1 hxo.2.2
      have e40 : sL U 40 i = x.1 := by rw [fr_gL hfr (by omega)]; exact hx.1
      have e41 : sA U 41 i = eo (nmT T) x := by rw [fr_gA hfr (by omega)]; exact hx.2
      refine w_aload_n rfl l0 rfl ?_
      refine w_getR rfl rfl sh_3 rfl rfl ?_
      refine w_iload_n rfl l2 rfl ?_
      refine w_CV (as := [.int (iZ i)]) (r := []) rfl rfl rfl rfl sh_39 (Nat.le_of_ble_eq_true rfl) (Nat.le_of_ble_eq_true rfl) (by omega) rfl (c_hid (a := 39) (b := 40) (c := 41) (n := 480) (i := i) ⟨sh_39, sh_40, sh_41⟩ (by decide) (by omega) (by omega) (by omega) (by omega) (by omega)) ?_
      rintro _ _ ⟨rfl, hS⟩
      rw [hS]
      show w_T _ _ 29 22 _ [.int (iZ (sA U 41 i % 256))] _ _
      refine w_iload_n rfl l1 rfl ?_
      refine w_zor rfl rfl ?_
      refine w_istore_n rfl (by decide) rfl ?_
      refine w_aload_n rfl l0 rfl ?_
      refine w_getR rfl rfl sh_3 rfl rfl ?_
      refine w_aload_n rfl l0 rfl ?_
      refine w_getR rfl rfl sh_3 rfl rfl ?_
      refine w_getR rfl rfl sh_39 rfl rfl ?_
      refine w_iload_n rfl (congrArg x_k2 l2) rfl ?_
      refine w_lald (z := sL U 40 i) rfl sh_40 (by omega) (by omega) (by decide) rfl rfl ?_
      refine w_aload_n rfl l0 rfl ?_
      refine w_getR rfl rfl sh_3 rfl rfl ?_
      refine w_iload_n rfl (congrArg x_k2 l2) rfl ?_
      refine w_CV (as := [.int (iZ i)]) (r := [.long (sL U 40 i), .ref 33]) rfl rfl rfl rfl sh_39 (Nat.le_of_ble_eq_true rfl) (Nat.le_of_ble_eq_true rfl) (by omega) rfl (c_plc (a := 39) (b := 40) (c := 41) (n := 480) (i := i) ⟨sh_39, sh_40, sh_41⟩ (by decide) (by omega) (by omega) (by omega) (by omega) (by omega)) ?_
      rintro _ _ ⟨rfl, hS⟩
      rw [hS]
      show w_T _ _ 29 46 _ [.int (iZ (sA U 41 i / 256)), .long (sL U 40 i), .ref 33] _ _
      refine w_iload_n rfl rfl rfl ?_
      refine w_CV (as := [.long (sL U 40 i), .int (iZ (sA U 41 i / 256)), .int (iZ (zor (sA U 41 i % 256) hd2))]) (r := []) rfl rfl rfl rfl sh_33 (Nat.le_of_ble_eq_true rfl) (Nat.le_of_ble_eq_true rfl) (by omega) rfl (c_add (a := 33) (b := 34) (c := 35) (n := 1360) ⟨sh_33, sh_34, sh_35⟩ (by (try simp (disch := omega) only [rv_self, rv_ne, rl_self, rl_ne, rA_self, rA_ne, rL_self, rL_ne, rR_self, rR_ne, xvl, xvA, xvL, xvR, xlv, xlA, xlL, xlR, xAv, xAl, xAL, xAR, xLv, xLl, xLA, xLR, xRv, xRl, xRA, xRL]); omega) (by (try simp (disch := omega) only [rv_self, rv_ne, rl_self, rl_ne, rA_self, rA_ne, rL_self, rL_ne, rR_self, rR_ne, xvl, xvA, xvL, xvR, xlv, xlA, xlL, xlR, xAv, xAl, xAL, xAR, xLv, xLl, xLA, xLR, xRv, xRl, xRA, xRL]); omega) (by decide) (by omega)) ?_
      rintro _ _ ⟨rfl, hS⟩
      rw [hS]
      show w_T _ _ 29 50 _ [] _ _
      refine w_iinc rfl (congrArg x_k2 l2) (by decide) rfl ?_
      refine w_goto (pc2 := 10) rfl (by decide) ?_
      exact ih (i + (-1)) k1 ((x :: kb)) _ _ (by exact l0) (by exact (congrArg x_k2 l1)) (by exact rfl) (by exact (fr_v (fr_A (fr_L hfr (by omega)) (by omega)) (by omega))) (by rw [hsp, List.append_assoc]; rfl) (by omega) (by simp (disch := omega) only [rv_self, rv_ne, rl_self, rl_ne, rA_self, rA_ne, rL_self, rL_ne, rR_self, rR_ne, xvl, xvA, xvL, xvR, xlv, xlA, xlL, xlR, xAv, xAl, xAL, xAR, xLv, xLl, xLA, xLR, xRv, xRl, xRA, xRL]; rw [hzz, List.length_cons]; omega) (by simp (disch := omega) only [rv_self, rv_ne, rl_self, rl_ne, rA_self, rA_ne, rL_self, rL_ne, rR_self, rR_ne, xvl, xvA, xvL, xvR, xlv, xlA, xlL, xlR, xAv, xAl, xAL, xAR, xLv, xLl, xLA, xLR, xRv, xRl, xRA, xRL]; rw [e40, e41, hh, or_eo]; exact bw_push (e := addE K x) hb) (by intro j hj; simp (disch := omega) only [rv_self, rv_ne, rl_self, rl_ne, rA_self, rA_ne, rL_self, rL_ne, rR_self, rR_ne, xvl, xvA, xvL, xvR, xlv, xlA, xlL, xlR, xAv, xAl, xAL, xAR, xLv, xLl, xLA, xLR, xRv, xRl, xRA, xRL]; rw [w_u_ne _ _ (by omega), w_u_ne _ _ (by omega)]; exact hlow j hj) (by omega)
theorem c_push {sc : x_S} {d : Nat} {S : w_S} {T : List Mac} {K : Int64 → Bool} {hd2 : Int} {l : List ETok} (hh : hd2 = (hs (nmT T) K : Nat)) (hz : sv S 39 2 = l.length) (hw : fw (nmT T) (sL S 40) (sA S 41) 0 l) (hlk : loks l) (hl : (l.length : Int) ≤ 40) (P0 : 0 ≤ sv S 33 2) (hP : sv S 33 2 + l.length ≤ 1360) (hd : 1 ≤ d) : w_T sc d 29 0 (x_en 0 [.ref 3, .int (iZ hd2)]) [] S (fun v S2 => v = none ∧ fr (fun a => a = 33 ∨ a = 34 ∨ a = 35) S S2 ∧ sv S2 33 2 = sv S 33 2 + l.length ∧ bw (nmT T) (sL S2 34) (sA S2 35) (sv S 33 2 + l.length) (l.map (addE K)) ∧ ∀ j, j < sv S 33 2 → sL S2 34 j = sL S 34 j ∧ sA S2 35 j = sA S 35 j) := by
  refine w_aload_n rfl rfl rfl ?_
  refine w_getR rfl rfl sh_3 rfl rfl ?_
  refine w_getI (z := sv S 39 2) rfl rfl sh_39 rfl rfl rfl ?_
  refine w_iconst rfl rfl ?_
  refine w_isub rfl rfl ?_
  refine w_istore_n rfl (by decide) rfl ?_
  exact (c_push_c hh hz hw hlk hl P0 hP hd _) (sv S 39 2 - 1) l ([]) _ _ rfl rfl rfl (by exact (fr_refl _ _)) (by rw [List.append_nil]) (by omega) (by rw [List.length_nil]; simp) (by exact trivial) (by exact fun j _ => ⟨rfl, rfl⟩) (Nat.lt_succ_self _)
theorem c_ea_c {sc : x_S} {d : Nat} {S : w_S} {pi : Nat → Nat} {T : List Mac} {q fu : Nat} {p r base top : Int} {as : List (List ETok)} (H : XLp sc T fu) (ht : ctab S pi T) (h42 : ∀ k : Int, 0 ≤ k → k < 31 → sR S 42 k = some (43 + 5 * k.toNat)) (hr : sv S 3 2 = r) (hq : (q : Int) < r) (hr3 : r ≤ 30) (p0 : 0 ≤ p) (p3 : p < 3) (hp : p < as.length) (har : argr (nmT T) (sL S 34) (sA S 35) (sA S (44 + 5 * q)) (sA S (45 + 5 * q)) base top as) (b0 : 0 ≤ base) (tp : top ≤ sv S 33 2) (hal : loks (as.getD p.toNat [])) (D0 : 0 ≤ sv S 36 2) (hcap : sv S 33 2 + sv S 36 2 + (as.getD p.toNat []).length ≤ 160 + 40 * r) (hn : ((as.getD p.toNat []).length : Int) + 100 * (31 - r) ≤ fu) (hd : 13 + 3 * (30 - q) ≤ d) : ∀ n : Nat, (∀ (i : Int) (rs : List ETok) (dn : List ETok) (U : w_S) (lv : x_L) (l0 : lv 0 = some (.ref 3)) (l1 : lv 1 = some (.ref (43 + 5 * q))) (l2 : lv 2 = some (.int (iZ p))) (l3 : lv 3 = some (.int (iZ q))) (l4 : lv 4 = some (.int (iZ (sv S 33 2)))) (l5 : lv 5 = some (.int (iZ (sv S 36 2)))) (l6 : lv 6 = some (.int (iZ i))) (hfr : fr (fun a => a = 33 ∨ a = 34 ∨ a = 35) S U) (hsp : (as.getD p.toNat []) = rs ++ dn) (hbr : bw (nmT T) (sL S 34) (sA S 35) (sA S (45 + 5 * q) p) (as.getD p.toNat [])) (hi : i = sA S (45 + 5 * q) p - rs.length) (hi0 : 0 ≤ i) (hzz : sv U 33 2 = sv S 33 2 + dn.length) (hb : bw (nmT T) (sL U 34) (sA U 35) (sv U 33 2) dn) (hlow : ∀ j, j < sv S 33 2 → sL U 34 j = sL S 34 j ∧ sA U 35 j = sA S 35 j) (hm : rs.length < n), w_T sc d 26 26 lv [] U (fun v S2 => v = some (.int (iZ (if ¬ (expL T fu r (as.getD p.toNat []) []).1 = 0 then (expL T fu r (as.getD p.toNat []) []).1 else if 40 < ((expL T fu r (as.getD p.toNat []) []).2.2.length : Int) then 7 else 0))) ∧ fr (fun a => a = 3 ∨ (33 ≤ a ∧ a ≤ 41) ∨ (46 + 5 * q ≤ a ∧ a ≤ 197)) S S2 ∧ sv S2 3 2 = (expL T fu r (as.getD p.toNat []) []).2.1 ∧ (0 ≤ sv S2 33 2 ∧ sv S2 33 2 ≤ 1360) ∧ ((if ¬ (expL T fu r (as.getD p.toNat []) []).1 = 0 then (expL T fu r (as.getD p.toNat []) []).1 else if 40 < ((expL T fu r (as.getD p.toNat []) []).2.2.length : Int) then 7 else 0) = 0 → sv S2 33 2 = sv S 33 2 ∧ sv S2 36 2 = sv S 36 2 + (expL T fu r (as.getD p.toNat []) []).2.2.length ∧ fw (nmT T) (sL S2 37) (sA S2 38) (sv S 36 2) (expL T fu r (as.getD p.toNat []) []).2.2 ∧ (∀ j, 0 ≤ j → j < sv S 33 2 → sL S2 34 j = sL S 34 j ∧ sA S2 35 j = sA S 35 j) ∧ (∀ j, 0 ≤ j → j < sv S 36 2 → sL S2 37 j = sL S 37 j ∧ sA S2 38 j = sA S 38 j) ∧ sA S2 (46 + 5 * q) = w_u (sA S (46 + 5 * q)) p (sv S 36 2) ∧ sA S2 (47 + 5 * q) = w_u (sA S (47 + 5 * q)) p (sv S 36 2 + (expL T fu r (as.getD p.toNat []) []).2.2.length)))) := by
  intro n
  induction n with
  | zero => exact fun i rs dn U lv l0 l1 l2 l3 l4 l5 l6 hfr hsp hbr hi hi0 hzz hb hlow hm => absurd hm (Nat.not_lt_zero _)
  | succ n ih =>
    intro i rs dn U lv l0 l1 l2 l3 l4 l5 l6 hfr hsp hbr hi hi0 hzz hb hlow hm
    have hll : ((as.getD p.toNat []).length : Int) = rs.length + dn.length := by rw [hsp, List.length_append]; omega
    have hpp : ((p.toNat : Nat) : Int) = p := Int.toNat_of_nonneg p0
    have hak := har p.toNat (by omega) (by omega)
    rw [hpp] at hak
    have e45 : sA U (45 + 5 * q) p = sA S (45 + 5 * q) p := by rw [fr_gA hfr (by omega)]
    refine w_iload rfl l6 rfl ?_
    refine w_aload_n rfl l1 rfl ?_
    refine w_getR rfl rfl (sh_arg (by omega)) rfl rfl ?_
    refine w_iload_n rfl l2 rfl ?_
    refine w_iald (z := sA U (45 + 5 * q) p) rfl (sh_arg2 (by omega)) (by omega) (by omega) (by decide) rfl rfl ?_
    refine w_ic_ge (pc2 := 56) (pc3 := 37) rfl (by decide) rfl ⟨by omega, by omega⟩ ⟨by omega, by omega⟩ (fun c34 => ?_) (fun c34 => ?_)
    · skip
      have hn2 : rs = [] := List.eq_nil_of_length_eq_zero (by omega)
      rw [hn2, List.nil_append] at hsp
      rw [← hsp] at hzz hb
      have ktab : ctab U pi T := ctab_fr ht hfr (by omega)
      have k42 : ∀ k : Int, 0 ≤ k → k < 31 → sR U 42 k = some (43 + 5 * k.toNat) := by rw [fr_gR hfr (by omega)]; exact h42
      have kr : sv U 3 2 = r := by rw [fr_gv hfr (by omega)]; exact hr
      have eD : sv U 36 2 = sv S 36 2 := fr_gv hfr (by omega) 2
      refine w_aload_n rfl l0 rfl ?_
      refine w_iload rfl l4 rfl ?_
      refine w_iload_n rfl l3 rfl ?_
      refine w_iconst rfl rfl ?_
      refine w_iadd rfl rfl ?_
      refine w_CV (as := [.int (iZ (sv S 33 2)), .int (iZ (q + 1))]) (r := []) rfl rfl rfl rfl sh_3 (Nat.le_of_ble_eq_true rfl) (Nat.le_of_ble_eq_true rfl) (by omega) rfl (H (d - 1) U pi (sv S 33 2) r (q + 1) (as.getD p.toNat []) ktab k42 (by omega) hzz hb hal kr (by omega) (by omega) (by omega) (by omega) (by omega) (by omega)) ?_
      rintro _ V ⟨rfl, f1, hr1, hpb, hx1⟩
      show w_T _ _ 26 65 _ [.int (iZ ((expL T fu r (as.getD p.toNat []) []).1))] _ _
      have xr := expL_r (T := T) (fun k k0 k1 => (ht.2.2.2.2.2 k k0 k1).2) fu r (as.getD p.toNat []) [] hr3
      rw [List.length_nil] at xr
      have hfr2 : fr (fun a => a = 3 ∨ (33 ≤ a ∧ a ≤ 41) ∨ (48 + 5 * q ≤ a ∧ a ≤ 197)) S V := fr_trans (fr_mono hfr (by omega)) (fr_mono f1 (by omega))
      refine w_istore rfl (by decide) rfl ?_
      refine w_aload_n rfl l1 rfl ?_
      refine w_getR rfl rfl (sh_arg (by omega)) rfl rfl ?_
      refine w_iload_n rfl l2 rfl ?_
      refine w_iload rfl (congrArg x_k2 l5) rfl ?_
      refine w_iaS (f := sA V (46 + 5 * q)) rfl (sh_arg3 (by omega)) (by omega) (by omega) (by decide) rfl rfl ?_
      refine w_aload_n rfl l1 rfl ?_
      refine w_getR rfl rfl (sh_arg (by omega)) rfl rfl ?_
      refine w_iload_n rfl l2 rfl ?_
      refine w_aload_n rfl l0 rfl ?_
      refine w_getR rfl rfl sh_3 rfl rfl ?_
      refine w_getI (z := sv V 36 2) rfl rfl sh_36 rfl rfl rfl ?_
      refine w_iaS (f := sA V (47 + 5 * q)) rfl (sh_arg4 (by omega)) (by omega) (by omega) (by decide) (rA_ne (by omega)) rfl ?_
      refine w_iload rfl rfl rfl ?_
      refine w_if_ne (pc2 := 112) (pc3 := 93) rfl (by decide) rfl ⟨by omega, by omega⟩ (fun c90 => ?_) (fun c90 => ?_)
      · skip
        refine w_iload rfl rfl rfl ?_
        refine w_iret rfl rfl ?_
        have hfq : fr (fun a => a = 3 ∨ (33 ≤ a ∧ a ≤ 41) ∨ (46 + 5 * q ≤ a ∧ a ≤ 197)) S V := fr_trans (fr_mono hfr (by omega)) (fr_mono f1 (by omega))
        by_cases h00 : (expL T fu r (as.getD p.toNat []) []).1 = 0
        · have hx := hx1 h00
          have hv : (if ¬ (expL T fu r (as.getD p.toNat []) []).1 = 0 then (expL T fu r (as.getD p.toNat []) []).1 else if 40 < ((expL T fu r (as.getD p.toNat []) []).2.2.length : Int) then 7 else 0) = 0 := by rw [if_neg (not_not_intro h00), if_neg (by first | omega | exact absurd h00 c90)]
          rw [hv, h00]
          refine ⟨rfl, (fr_A (fr_A hfq (by omega)) (by omega)), by simp (disch := omega) only [rv_self, rv_ne, rl_self, rl_ne, rA_self, rA_ne, rL_self, rL_ne, rR_self, rR_ne, xvl, xvA, xvL, xvR, xlv, xlA, xlL, xlR, xAv, xAl, xAL, xAR, xLv, xLl, xLA, xLR, xRv, xRl, xRA, xRL]; exact hr1, by simp (disch := omega) only [rv_self, rv_ne, rl_self, rl_ne, rA_self, rA_ne, rL_self, rL_ne, rR_self, rR_ne, xvl, xvA, xvL, xvR, xlv, xlA, xlL, xlR, xAv, xAl, xAL, xAR, xLv, xLl, xLA, xLR, xRv, xRl, xRA, xRL]; exact hpb, fun _ => ⟨by simp (disch := omega) only [rv_self, rv_ne, rl_self, rl_ne, rA_self, rA_ne, rL_self, rL_ne, rR_self, rR_ne, xvl, xvA, xvL, xvR, xlv, xlA, xlL, xlR, xAv, xAl, xAL, xAR, xLv, xLl, xLA, xLR, xRv, xRl, xRA, xRL]; exact hx.1, by simp (disch := omega) only [rv_self, rv_ne, rl_self, rl_ne, rA_self, rA_ne, rL_self, rL_ne, rR_self, rR_ne, xvl, xvA, xvL, xvR, xlv, xlA, xlL, xlR, xAv, xAl, xAL, xAR, xLv, xLl, xLA, xLR, xRv, xRl, xRA, xRL]; rw [← eD]; exact hx.2.1, by simp (disch := omega) only [rv_self, rv_ne, rl_self, rl_ne, rA_self, rA_ne, rL_self, rL_ne, rR_self, rR_ne, xvl, xvA, xvL, xvR, xlv, xlA, xlL, xlR, xAv, xAl, xAL, xAR, xLv, xLl, xLA, xLR, xRv, xRl, xRA, xRL]; rw [← eD]; exact hx.2.2.1, fun j j0 j1 => ?_, fun j j0 j1 => ?_, ?_, ?_⟩⟩
          · simp (disch := omega) only [rv_self, rv_ne, rl_self, rl_ne, rA_self, rA_ne, rL_self, rL_ne, rR_self, rR_ne, xvl, xvA, xvL, xvR, xlv, xlA, xlL, xlR, xAv, xAl, xAL, xAR, xLv, xLl, xLA, xLR, xRv, xRl, xRA, xRL]
            have h9 := hx.2.2.2.1 j j0 j1
            have h8 := hlow j j1
            exact ⟨h9.1.trans h8.1, h9.2.trans h8.2⟩
          · simp (disch := omega) only [rv_self, rv_ne, rl_self, rl_ne, rA_self, rA_ne, rL_self, rL_ne, rR_self, rR_ne, xvl, xvA, xvL, xvR, xlv, xlA, xlL, xlR, xAv, xAl, xAL, xAR, xLv, xLl, xLA, xLR, xRv, xRl, xRA, xRL]
            have h9 := hx.2.2.2.2 j j0 (by omega)
            rw [fr_gL hfr (by omega), fr_gA hfr (by omega)] at h9
            exact h9
          · simp (disch := omega) only [rv_self, rv_ne, rl_self, rl_ne, rA_self, rA_ne, rL_self, rL_ne, rR_self, rR_ne, xvl, xvA, xvL, xvR, xlv, xlA, xlL, xlR, xAv, xAl, xAL, xAR, xLv, xLl, xLA, xLR, xRv, xRl, xRA, xRL]
            rw [fr_gA hfr2 (by omega)]
          · simp (disch := omega) only [rv_self, rv_ne, rl_self, rl_ne, rA_self, rA_ne, rL_self, rL_ne, rR_self, rR_ne, xvl, xvA, xvL, xvR, xlv, xlA, xlL, xlR, xAv, xAl, xAL, xAR, xLv, xLl, xLA, xLR, xRv, xRl, xRA, xRL]
            rw [fr_gA hfr2 (by omega), hx.2.1, eD]
        · have hv : (if ¬ (expL T fu r (as.getD p.toNat []) []).1 = 0 then (expL T fu r (as.getD p.toNat []) []).1 else if 40 < ((expL T fu r (as.getD p.toNat []) []).2.2.length : Int) then 7 else 0) = (expL T fu r (as.getD p.toNat []) []).1 := by rw [if_pos h00]
          rw [hv]
          exact ⟨rfl, (fr_A (fr_A hfq (by omega)) (by omega)), by simp (disch := omega) only [rv_self, rv_ne, rl_self, rl_ne, rA_self, rA_ne, rL_self, rL_ne, rR_self, rR_ne, xvl, xvA, xvL, xvR, xlv, xlA, xlL, xlR, xAv, xAl, xAL, xAR, xLv, xLl, xLA, xLR, xRv, xRl, xRA, xRL]; exact hr1, by simp (disch := omega) only [rv_self, rv_ne, rl_self, rl_ne, rA_self, rA_ne, rL_self, rL_ne, rR_self, rR_ne, xvl, xvA, xvL, xvR, xlv, xlA, xlL, xlR, xAv, xAl, xAL, xAR, xLv, xLl, xLA, xLR, xRv, xRl, xRA, xRL]; exact hpb, fun z => absurd z h00⟩
      · skip
        have hx90 := hx1 c90
        have hx92 := hx90.2.1
        have xr9 := (xr.2.2.2.2 c90).1
        refine w_aload_n rfl l0 rfl ?_
        refine w_getR rfl rfl sh_3 rfl rfl ?_
        refine w_getI (z := sv V 36 2) rfl rfl sh_36 rfl rfl rfl ?_
        refine w_iload rfl (congrArg x_k2 l5) rfl ?_
        refine w_isub rfl rfl ?_
        refine w_bipush rfl (by decide) rfl ?_
        refine w_ic_le (pc2 := 112) (pc3 := 108) rfl (by decide) rfl ⟨by omega, by omega⟩ ⟨by decide, by decide⟩ (fun c105 => ?_) (fun c105 => ?_)
        · skip
          refine w_iload rfl rfl rfl ?_
          refine w_iret rfl rfl ?_
          have hfq : fr (fun a => a = 3 ∨ (33 ≤ a ∧ a ≤ 41) ∨ (46 + 5 * q ≤ a ∧ a ≤ 197)) S V := fr_trans (fr_mono hfr (by omega)) (fr_mono f1 (by omega))
          by_cases h00 : (expL T fu r (as.getD p.toNat []) []).1 = 0
          · have hx := hx1 h00
            have hv : (if ¬ (expL T fu r (as.getD p.toNat []) []).1 = 0 then (expL T fu r (as.getD p.toNat []) []).1 else if 40 < ((expL T fu r (as.getD p.toNat []) []).2.2.length : Int) then 7 else 0) = 0 := by rw [if_neg (not_not_intro h00), if_neg (by first | omega | exact absurd h00 c90)]
            rw [hv, h00]
            refine ⟨rfl, (fr_A (fr_A hfq (by omega)) (by omega)), by simp (disch := omega) only [rv_self, rv_ne, rl_self, rl_ne, rA_self, rA_ne, rL_self, rL_ne, rR_self, rR_ne, xvl, xvA, xvL, xvR, xlv, xlA, xlL, xlR, xAv, xAl, xAL, xAR, xLv, xLl, xLA, xLR, xRv, xRl, xRA, xRL]; exact hr1, by simp (disch := omega) only [rv_self, rv_ne, rl_self, rl_ne, rA_self, rA_ne, rL_self, rL_ne, rR_self, rR_ne, xvl, xvA, xvL, xvR, xlv, xlA, xlL, xlR, xAv, xAl, xAL, xAR, xLv, xLl, xLA, xLR, xRv, xRl, xRA, xRL]; exact hpb, fun _ => ⟨by simp (disch := omega) only [rv_self, rv_ne, rl_self, rl_ne, rA_self, rA_ne, rL_self, rL_ne, rR_self, rR_ne, xvl, xvA, xvL, xvR, xlv, xlA, xlL, xlR, xAv, xAl, xAL, xAR, xLv, xLl, xLA, xLR, xRv, xRl, xRA, xRL]; exact hx.1, by simp (disch := omega) only [rv_self, rv_ne, rl_self, rl_ne, rA_self, rA_ne, rL_self, rL_ne, rR_self, rR_ne, xvl, xvA, xvL, xvR, xlv, xlA, xlL, xlR, xAv, xAl, xAL, xAR, xLv, xLl, xLA, xLR, xRv, xRl, xRA, xRL]; rw [← eD]; exact hx.2.1, by simp (disch := omega) only [rv_self, rv_ne, rl_self, rl_ne, rA_self, rA_ne, rL_self, rL_ne, rR_self, rR_ne, xvl, xvA, xvL, xvR, xlv, xlA, xlL, xlR, xAv, xAl, xAL, xAR, xLv, xLl, xLA, xLR, xRv, xRl, xRA, xRL]; rw [← eD]; exact hx.2.2.1, fun j j0 j1 => ?_, fun j j0 j1 => ?_, ?_, ?_⟩⟩
            · simp (disch := omega) only [rv_self, rv_ne, rl_self, rl_ne, rA_self, rA_ne, rL_self, rL_ne, rR_self, rR_ne, xvl, xvA, xvL, xvR, xlv, xlA, xlL, xlR, xAv, xAl, xAL, xAR, xLv, xLl, xLA, xLR, xRv, xRl, xRA, xRL]
              have h9 := hx.2.2.2.1 j j0 j1
              have h8 := hlow j j1
              exact ⟨h9.1.trans h8.1, h9.2.trans h8.2⟩
            · simp (disch := omega) only [rv_self, rv_ne, rl_self, rl_ne, rA_self, rA_ne, rL_self, rL_ne, rR_self, rR_ne, xvl, xvA, xvL, xvR, xlv, xlA, xlL, xlR, xAv, xAl, xAL, xAR, xLv, xLl, xLA, xLR, xRv, xRl, xRA, xRL]
              have h9 := hx.2.2.2.2 j j0 (by omega)
              rw [fr_gL hfr (by omega), fr_gA hfr (by omega)] at h9
              exact h9
            · simp (disch := omega) only [rv_self, rv_ne, rl_self, rl_ne, rA_self, rA_ne, rL_self, rL_ne, rR_self, rR_ne, xvl, xvA, xvL, xvR, xlv, xlA, xlL, xlR, xAv, xAl, xAL, xAR, xLv, xLl, xLA, xLR, xRv, xRl, xRA, xRL]
              rw [fr_gA hfr2 (by omega)]
            · simp (disch := omega) only [rv_self, rv_ne, rl_self, rl_ne, rA_self, rA_ne, rL_self, rL_ne, rR_self, rR_ne, xvl, xvA, xvL, xvR, xlv, xlA, xlL, xlR, xAv, xAl, xAL, xAR, xLv, xLl, xLA, xLR, xRv, xRl, xRA, xRL]
              rw [fr_gA hfr2 (by omega), hx.2.1, eD]
          · have hv : (if ¬ (expL T fu r (as.getD p.toNat []) []).1 = 0 then (expL T fu r (as.getD p.toNat []) []).1 else if 40 < ((expL T fu r (as.getD p.toNat []) []).2.2.length : Int) then 7 else 0) = (expL T fu r (as.getD p.toNat []) []).1 := by rw [if_pos h00]
            rw [hv]
            exact ⟨rfl, (fr_A (fr_A hfq (by omega)) (by omega)), by simp (disch := omega) only [rv_self, rv_ne, rl_self, rl_ne, rA_self, rA_ne, rL_self, rL_ne, rR_self, rR_ne, xvl, xvA, xvL, xvR, xlv, xlA, xlL, xlR, xAv, xAl, xAL, xAR, xLv, xLl, xLA, xLR, xRv, xRl, xRA, xRL]; exact hr1, by simp (disch := omega) only [rv_self, rv_ne, rl_self, rl_ne, rA_self, rA_ne, rL_self, rL_ne, rR_self, rR_ne, xvl, xvA, xvL, xvR, xlv, xlA, xlL, xlR, xAv, xAl, xAL, xAR, xLv, xLl, xLA, xLR, xRv, xRl, xRA, xRL]; exact hpb, fun z => absurd z h00⟩
        · skip
          refine w_bipush rfl (by decide) rfl ?_
          refine w_istore rfl (by decide) rfl ?_
          refine w_iload rfl rfl rfl ?_
          refine w_iret rfl rfl ?_
          have hfq : fr (fun a => a = 3 ∨ (33 ≤ a ∧ a ≤ 41) ∨ (46 + 5 * q ≤ a ∧ a ≤ 197)) S V := fr_trans (fr_mono hfr (by omega)) (fr_mono f1 (by omega))
          have hv : (if ¬ (expL T fu r (as.getD p.toNat []) []).1 = 0 then (expL T fu r (as.getD p.toNat []) []).1 else if 40 < ((expL T fu r (as.getD p.toNat []) []).2.2.length : Int) then 7 else 0) = 7 := by rw [if_neg (not_not_intro c90), if_pos (by have := (hx1 c90).2.1; omega)]
          rw [hv]
          exact ⟨rfl, (fr_A (fr_A hfq (by omega)) (by omega)), by simp (disch := omega) only [rv_self, rv_ne, rl_self, rl_ne, rA_self, rA_ne, rL_self, rL_ne, rR_self, rR_ne, xvl, xvA, xvL, xvR, xlv, xlA, xlL, xlR, xAv, xAl, xAL, xAR, xLv, xLl, xLA, xLR, xRv, xRl, xRA, xRL]; exact hr1, by simp (disch := omega) only [rv_self, rv_ne, rl_self, rl_ne, rA_self, rA_ne, rL_self, rL_ne, rR_self, rR_ne, xvl, xvA, xvL, xvR, xlv, xlA, xlL, xlR, xAv, xAl, xAL, xAR, xLv, xLl, xLA, xLR, xRv, xRl, xRA, xRL]; exact hpb, fun z => absurd z (by decide)⟩
    · skip
      obtain ⟨k1, x, rfl⟩ := list_snoc (l := rs) (by omega)
      have hl3 : ((as.getD p.toNat []).length : Int) = k1.length + 1 + dn.length := by rw [hsp, List.length_append, List.length_append]; simp only [List.length_cons, List.length_nil]; omega
      have hl4 : ((k1 ++ [x]).length : Int) = k1.length + 1 := by rw [List.length_append]; simp
      have hx : sL U 34 i = x.1 ∧ sA U 35 i = eo (nmT T) x := by
        have h9 := hbr
        rw [hsp, List.append_assoc] at h9
        have h8 := ((bw_app k1 _ _).mp h9).2
        have h7 := hlow i (by omega)
        rw [h7.1, h7.2]
        rw [show i = sA S (45 + 5 * q) p - (k1.length : Int) - 1 by omega]
        exact ⟨h8.1, h8.2.1⟩
      refine w_aload_n rfl l0 rfl ?_
      refine w_getR rfl rfl sh_3 rfl rfl ?_
      refine w_aload_n rfl l0 rfl ?_
      refine w_getR rfl rfl sh_3 rfl rfl ?_
      refine w_iload rfl l6 rfl ?_
      refine w_CV (as := [.ref 33, .int (iZ i)]) (r := []) rfl rfl rfl rfl sh_33 (Nat.le_of_ble_eq_true rfl) (Nat.le_of_ble_eq_true rfl) (by omega) rfl (c_adf (a := 33) (b := 34) (c := 35) (n := 1360) (a2 := 33) (b2 := 34) (c2 := 35) (n2 := 1360) (i := i) ⟨sh_33, sh_34, sh_35⟩ (by omega) (by omega) (by decide) ⟨sh_33, sh_34, sh_35⟩ (by decide) (by omega) (by omega) (by omega) (by omega)) ?_
      rintro _ _ ⟨rfl, hS⟩
      rw [hS]
      show w_T _ _ 26 50 _ [] _ _
      refine w_iinc rfl l6 (by decide) rfl ?_
      refine w_goto (pc2 := 26) rfl (by decide) ?_
      exact ih (i + 1) k1 ((x :: dn)) _ _ (by exact l0) (by exact l1) (by exact l2) (by exact l3) (by exact l4) (by exact (congrArg x_k2 l5)) (by exact rfl) (by exact (fr_v (fr_A (fr_L hfr (by omega)) (by omega)) (by omega))) (by rw [hsp, List.append_assoc]; rfl) (by exact hbr) (by omega) (by omega) (by simp (disch := omega) only [rv_self, rv_ne, rl_self, rl_ne, rA_self, rA_ne, rL_self, rL_ne, rR_self, rR_ne, xvl, xvA, xvL, xvR, xlv, xlA, xlL, xlR, xAv, xAl, xAL, xAR, xLv, xLl, xLA, xLR, xRv, xRl, xRA, xRL]; rw [hzz, List.length_cons]; omega) (by simp (disch := omega) only [rv_self, rv_ne, rl_self, rl_ne, rA_self, rA_ne, rL_self, rL_ne, rR_self, rR_ne, xvl, xvA, xvL, xvR, xlv, xlA, xlL, xlR, xAv, xAl, xAL, xAR, xLv, xLl, xLA, xLR, xRv, xRl, xRA, xRL]; rw [hx.1, hx.2]; exact bw_push (e := x) hb) (by intro j hj; simp (disch := omega) only [rv_self, rv_ne, rl_self, rl_ne, rA_self, rA_ne, rL_self, rL_ne, rR_self, rR_ne, xvl, xvA, xvL, xvR, xlv, xlA, xlL, xlR, xAv, xAl, xAL, xAR, xLv, xLl, xLA, xLR, xRv, xRl, xRA, xRL]; rw [w_u_ne _ _ (by omega), w_u_ne _ _ (by omega)]; exact hlow j hj) (by omega)
theorem c_ea {sc : x_S} {d : Nat} {S : w_S} {pi : Nat → Nat} {T : List Mac} {q fu : Nat} {p r base top : Int} {as : List (List ETok)} (H : XLp sc T fu) (ht : ctab S pi T) (h42 : ∀ k : Int, 0 ≤ k → k < 31 → sR S 42 k = some (43 + 5 * k.toNat)) (hr : sv S 3 2 = r) (hq : (q : Int) < r) (hr3 : r ≤ 30) (p0 : 0 ≤ p) (p3 : p < 3) (hp : p < as.length) (har : argr (nmT T) (sL S 34) (sA S 35) (sA S (44 + 5 * q)) (sA S (45 + 5 * q)) base top as) (b0 : 0 ≤ base) (tp : top ≤ sv S 33 2) (hal : loks (as.getD p.toNat [])) (D0 : 0 ≤ sv S 36 2) (hcap : sv S 33 2 + sv S 36 2 + (as.getD p.toNat []).length ≤ 160 + 40 * r) (hn : ((as.getD p.toNat []).length : Int) + 100 * (31 - r) ≤ fu) (hd : 13 + 3 * (30 - q) ≤ d) : w_T sc d 26 0 (x_en 0 [.ref 3, .ref (43 + 5 * q), .int (iZ p), .int (iZ q)]) [] S (fun v S2 => v = some (.int (iZ (if ¬ (expL T fu r (as.getD p.toNat []) []).1 = 0 then (expL T fu r (as.getD p.toNat []) []).1 else if 40 < ((expL T fu r (as.getD p.toNat []) []).2.2.length : Int) then 7 else 0))) ∧ fr (fun a => a = 3 ∨ (33 ≤ a ∧ a ≤ 41) ∨ (46 + 5 * q ≤ a ∧ a ≤ 197)) S S2 ∧ sv S2 3 2 = (expL T fu r (as.getD p.toNat []) []).2.1 ∧ (0 ≤ sv S2 33 2 ∧ sv S2 33 2 ≤ 1360) ∧ ((if ¬ (expL T fu r (as.getD p.toNat []) []).1 = 0 then (expL T fu r (as.getD p.toNat []) []).1 else if 40 < ((expL T fu r (as.getD p.toNat []) []).2.2.length : Int) then 7 else 0) = 0 → sv S2 33 2 = sv S 33 2 ∧ sv S2 36 2 = sv S 36 2 + (expL T fu r (as.getD p.toNat []) []).2.2.length ∧ fw (nmT T) (sL S2 37) (sA S2 38) (sv S 36 2) (expL T fu r (as.getD p.toNat []) []).2.2 ∧ (∀ j, 0 ≤ j → j < sv S 33 2 → sL S2 34 j = sL S 34 j ∧ sA S2 35 j = sA S 35 j) ∧ (∀ j, 0 ≤ j → j < sv S 36 2 → sL S2 37 j = sL S 37 j ∧ sA S2 38 j = sA S 38 j) ∧ sA S2 (46 + 5 * q) = w_u (sA S (46 + 5 * q)) p (sv S 36 2) ∧ sA S2 (47 + 5 * q) = w_u (sA S (47 + 5 * q)) p (sv S 36 2 + (expL T fu r (as.getD p.toNat []) []).2.2.length))) := by
  have hpp : ((p.toNat : Nat) : Int) = p := Int.toNat_of_nonneg p0
  have hak := har p.toNat (by omega) (by omega)
  rw [hpp] at hak
  refine w_aload_n rfl rfl rfl ?_
  refine w_getR rfl rfl sh_3 rfl rfl ?_
  refine w_getI (z := sv S 33 2) rfl rfl sh_33 rfl rfl rfl ?_
  refine w_istore rfl (by decide) rfl ?_
  refine w_aload_n rfl rfl rfl ?_
  refine w_getR rfl rfl sh_3 rfl rfl ?_
  refine w_getI (z := sv S 36 2) rfl rfl sh_36 rfl rfl rfl ?_
  refine w_istore rfl (by decide) rfl ?_
  refine w_aload_n rfl rfl rfl ?_
  refine w_getR rfl rfl (sh_arg (by omega)) rfl rfl ?_
  refine w_iload_n rfl rfl rfl ?_
  refine w_iald (z := sA S (44 + 5 * q) p) rfl (sh_arg1 (by omega)) (by omega) (by omega) (by decide) rfl rfl ?_
  refine w_istore rfl (by decide) rfl ?_
  exact (c_ea_c H ht h42 hr hq hr3 p0 p3 hp har b0 tp hal D0 hcap hn hd _) (sA S (44 + 5 * q) p) ((as.getD p.toNat [])) ([]) _ _ rfl rfl rfl rfl rfl rfl rfl (by exact (fr_refl _ _)) (by rw [List.append_nil]) (by exact hak.1) (by omega) (by omega) (by rw [List.length_nil]; simp) (by exact trivial) (by exact fun j _ => ⟨rfl, rfl⟩) (Nat.lt_succ_self _)
