/-! ===== p40: the turn of a tile that lies nowhere shows nowhere ===== -/
/-- the same board with other turns -/
def bTw (B : eBd) (tr : Nat → Nat) : eBd := (B.1, B.2.1, B.2.2.1, tr, B.2.2.2.2)
def bAg (B : eBd) (tr : Nat → Nat) : Prop := ∀ k c, k < bN B → bCe B k = some c → tr k = bTr B k
theorem zBest_ext {p q : Nat → Bool} {f g : Nat → Nat} : ∀ {n : Nat}, (∀ i, i < n → p i = q i) → (∀ i, i < n → f i = g i) → zBest p f n = zBest q g n
  | 0, _, _ => rfl
  | n + 1, h, h2 => by
    rw [zBest, zBest, zBest_ext (n := n) (fun i hi => h i (by omega)) (fun i hi => h2 i (by omega)), h n (by omega), h2 n (by omega)]
    cases h3 : zBest q g n with
    | none => rfl
    | some b =>
      have := (zBest_lt h3).1
      try dsimp only
      rw [h2 b (by omega)]
section Turns
variable {B : eBd} {tr : Nat → Nat}
theorem bTw_self (B : eBd) : bTw B (bTr B) = B := rfl
theorem bFace_tw (hb : bOk B) (ha : bAg B tr) {c e : Nat} (hc : c < bC B) (he : e < 6) : bFace (bTw B tr) c e = bFace B c e := by
  unfold bFace
  rw [show bTile (bTw B tr) c e = bTile B c e from rfl]
  cases h : bTile B c e with
  | none => rfl
  | some k =>
    obtain ⟨d, -, -, -, hk, hce, -⟩ := hb.tile hc he h
    show some (bNm B k (tr k) ((e + 3) % 6)) = some (bNm B k (bTr B k) ((e + 3) % 6))
    rw [ha k d hk hce]
theorem bClash_tw (hb : bOk B) (ha : bAg B tr) {k t c e : Nat} (hc : c < bC B) (he : e < 6) : bClash (bTw B tr) k t c e = bClash B k t c e := by
  unfold bClash
  rw [bFace_tw hb ha hc he]
  rfl
theorem bAgainst_tw (hb : bOk B) (ha : bAg B tr) {k c t : Nat} (hc : c < bC B) : bAgainst (bTw B tr) k c t = bAgainst B k c t := zFf_ext (fun e he => bClash_tw hb ha hc he)
theorem bFits_tw (hb : bOk B) (ha : bAg B tr) {k c t : Nat} (hc : c < bC B) : bFits (bTw B tr) k c t = bFits B k c t := by
  unfold bFits
  rw [bAgainst_tw hb ha hc]
  rfl
theorem bAny_tw (hb : bOk B) (ha : bAg B tr) {k c : Nat} (hc : c < bC B) : bAny (bTw B tr) k c = bAny B k c := zFf_ext (fun t _ => bFits_tw hb ha hc)
theorem bWays_tw (hb : bOk B) (ha : bAg B tr) (k : Nat) : bWays (bTw B tr) k = bWays B k := zSm_ext (fun c hc => zSm_ext (fun t _ => by
  show (if bFits (bTw B tr) k c t then 1 else 0) = if bFits B k c t then 1 else 0
  rw [bFits_tw hb ha hc]))
theorem bFirst_tw (hb : bOk B) (ha : bAg B tr) (k : Nat) : bFirst (bTw B tr) k = bFirst B k := zFf_ext (fun c hc => by
  show (bAny (bTw B tr) k c).isSome = (bAny B k c).isSome
  rw [bAny_tw hb ha hc])
theorem bHere_tw (hb : bOk B) (ha : bAg B tr) {c : Nat} (hc : c < bC B) : bHere (bTw B tr) c = bHere B c := by
  unfold bHere
  rw [show bAt (bTw B tr) c = bAt B c from rfl]
  cases h : bAt B c with
  | none => rfl
  | some k =>
    obtain ⟨hk, hce⟩ := hb.2.2.2.1 c k hc h
    show zSm (fun e => if (bTile B c e).isSome then bNm B k (tr k) e else 0) 3 = zSm (fun e => if (bTile B c e).isSome then bNm B k (bTr B k) e else 0) 3
    rw [ha k c hk hce]
theorem bMatched_tw (hb : bOk B) (ha : bAg B tr) : bMatched (bTw B tr) = bMatched B := zSm_ext (fun c hc => bHere_tw hb ha hc)
theorem bPoints_tw (hb : bOk B) (ha : bAg B tr) : bPoints (bTw B tr) = bPoints B := by
  unfold bPoints
  rw [bMatched_tw hb ha]
  rfl
theorem bGain_tw (hb : bOk B) (ha : bAg B tr) {c : Nat} (hc : c < bC B) : bGain (bTw B tr) c = bGain B c := zSm_ext (fun e he => by
  unfold bGainE
  rw [bFace_tw hb ha hc he]
  rfl)
theorem bRich_tw (hb : bOk B) (ha : bAg B tr) (k : Nat) : bRich (bTw B tr) k = bRich B k := zBest_ext (fun c hc => by
  show (bAny (bTw B tr) k c).isSome = (bAny B k c).isSome
  rw [bAny_tw hb ha hc]) (fun c hc => bGain_tw hb ha hc)
theorem bRichG_tw (hb : bOk B) (ha : bAg B tr) (k : Nat) : bRichG (bTw B tr) k = bRichG B k := by
  unfold bRichG
  rw [bRich_tw hb ha]
  cases h : bRich B k with
  | none => rfl
  | some c => exact bGain_tw hb ha (zBest_lt h).1
theorem bBestT_tw (hb : bOk B) (ha : bAg B tr) : bBestT (bTw B tr) = bBestT B := zBest_ext (fun k _ => by
  show (bRich (bTw B tr) k).isSome = (bRich B k).isSome
  rw [bRich_tw hb ha]) (fun k _ => bRichG_tw hb ha k)
theorem bLeft_tw (hb : bOk B) (ha : bAg B tr) (k : Nat) : bLeft (bTw B tr) k = bLeft B k := by
  unfold bLeft
  rw [bFirst_tw hb ha]
  rfl
theorem zDc_tw : ∀ (f c : Nat) (d : Int64), zDc (bTw B tr) f c d = zDc B f c d
  | 0, _, _ => rfl
  | f + 1, c, d => zDc_tw f (c + 1) _
theorem zDt_tw (hb : bOk B) (ha : bAg B tr) : ∀ (f k : Nat) (d : Int64), k + f ≤ bN B → zDt (bTw B tr) f k d = zDt B f k d
  | 0, _, _, _ => rfl
  | f + 1, k, d, h => by
    have e : (if (bCe (bTw B tr) k).isSome then nI (bTr (bTw B tr) k) else -1) = (if (bCe B k).isSome then nI (bTr B k) else -1) := by
      show (if (bCe B k).isSome then nI (tr k) else -1) = (if (bCe B k).isSome then nI (bTr B k) else -1)
      cases h1 : bCe B k with
      | none => rfl
      | some c =>
        rw [ha k c (by omega) h1]
    rw [zDt, zDt, e, bWays_tw hb ha, bLeft_tw hb ha]
    exact zDt_tw hb ha f (k + 1) _ (by omega)
theorem rEf_tw (x : Nat) : ∀ (n e : Nat) (s : rS), rEf (bTw B tr) x n e s = rEf B x n e s
  | 0, _, _ => rfl
  | n + 1, e, s => rEf_tw x n (e + 1) (rE B x e s)
theorem rNf_tw : ∀ (f x : Nat) (s : rS), rNf (bTw B tr) f x s = rNf B f x s
  | 0, _, _ => rfl
  | f + 1, x, s => by
    show (if x < s.2.2 then rNf (bTw B tr) f (x + 1) (rEf (bTw B tr) x 6 0 s) else s) = if x < s.2.2 then rNf B f (x + 1) (rEf B x 6 0 s) else s
    rw [rEf_tw, rNf_tw f]
theorem rReach_tw (c : Nat) (s : rS) : rReach (bTw B tr) c s = rReach B c s := rNf_tw _ _ _
theorem rGf_tw : ∀ (f c : Nat) (y : rS × Nat), rGf (bTw B tr) f c y = rGf B f c y
  | 0, _, _ => rfl
  | f + 1, c, y => by
    show (if (bAt B c).isSome && !y.1.1 c then rGf (bTw B tr) f (c + 1) (rReach (bTw B tr) c y.1, y.2 + 1) else rGf (bTw B tr) f (c + 1) y) = if (bAt B c).isSome && !y.1.1 c then rGf B f (c + 1) (rReach B c y.1, y.2 + 1) else rGf B f (c + 1) y
    rw [rReach_tw, rGf_tw f, rGf_tw f]
theorem bGroups_tw (B : eBd) (tr : Nat → Nat) : bGroups (bTw B tr) = bGroups B := congrArg (·.2) (rGf_tw _ _ _)
theorem digest_tw {S : gS} (hb : bOk (gB S)) (ha : bAg (gB S) tr) : z_digest (gWB S (bTw (gB S) tr) (gR S)) = z_digest S := by
  have e0 : zD0 (gWB S (bTw (gB S) tr) (gR S)) = zD0 S := by
    unfold zD0
    rw [show gB (gWB S (bTw (gB S) tr) (gR S)) = bTw (gB S) tr from rfl, show gR (gWB S (bTw (gB S) tr) (gR S)) = gR S from rfl, bPoints_tw hb ha, bBestT_tw hb ha, bGroups_tw, show bMatch (bTw (gB S) tr) = bMatch (gB S) from rfl, show bRings (bTw (gB S) tr) = bRings (gB S) from rfl]
    rfl
  unfold z_digest
  rw [e0, show gB (gWB S (bTw (gB S) tr) (gR S)) = bTw (gB S) tr from rfl]
  rw [show bN (bTw (gB S) tr) = bN (gB S) from rfl, show bC (bTw (gB S) tr) = bC (gB S) from rfl, zDc_tw, zDt_tw hb ha _ _ _ (by omega)]
/-- put and taken away again: the same board but for the tile's turn -/
theorem put_lift {k c t : Nat} (h1 : bAt B c = none) (h2 : bCe B k = none) : bLift (bPut B k c t) k c = bTw B (zU (bTr B) k t) := by
  have e1 : zU (zU (bAt B) c (some k)) c none = bAt B := funext fun i => by
    by_cases hq : i = c
    · rw [hq, zU_same, h1]
    · rw [zU_ne _ _ hq, zU_ne _ _ hq]
  have e2 : zU (zU (bCe B) k (some c)) k none = bCe B := funext fun i => by
    by_cases hq : i = k
    · rw [hq, zU_same, h2]
    · rw [zU_ne _ _ hq, zU_ne _ _ hq]
  show ((bW B, bR B, bN B, bP B + 1 - 1), zU (zU (bAt B) c (some k)) c none, zU (zU (bCe B) k (some c)) k none, zU (bTr B) k t, bNu B) = _
  rw [e1, e2, Nat.add_sub_cancel]
  rfl
theorem put_ag {k t : Nat} (h2 : bCe B k = none) : bAg B (zU (bTr B) k t) := fun i c _ hc => by
  by_cases hq : i = k
  · rw [hq, h2] at hc
    cases hc
  · exact zU_ne _ _ hq
end Turns
