-- THE LAW: its loop (printed by wip/gen/law.py)
def Law_bk : List (Nat × List Item) := [(18, Law_b18), (236, Law_b236), (299, Law_b299), (322, Law_b322), (335, Law_b335), (358, Law_b358), (391, Law_b391), (404, Law_b404), (417, Law_b417), (450, Law_b450), (483, Law_b483), (516, Law_b516), (549, Law_b549), (562, Law_b562), (575, Law_b575), (588, Law_b588), (601, Law_b601), (624, Law_b624), (657, Law_b657), (670, Law_b670), (713, Law_b713), (736, Law_b736), (759, Law_b759), (792, Law_b792), (805, Law_b805), (838, Law_b838), (861, Law_b861), (874, Law_b874), (887, Law_b887), (900, Law_b900), (923, Law_b923), (936, Law_b936), (959, Law_b959), (992, Law_b992), (1025, Law_b1025), (1048, Law_b1048), (1081, Law_b1081), (1094, Law_b1094), (1107, Law_b1107), (1130, Law_b1130), (1153, Law_b1153), (1154, Law_b1154), (1180, Law_b1180), (1181, Law_b1181), (1189, Law_b1189), (1212, Law_b1212), (1235, Law_b1235), (1258, Law_b1258), (1291, Law_b1291), (1324, Law_b1324), (1347, Law_b1347), (1370, Law_b1370), (1393, Law_b1393), (1399, Law_b1399)]
set_option maxRecDepth 100000 in
theorem Law_ck : Law_bk.all (fun b => ax_chB 10 4 code Law_cl b.1 b.2) = true := List.all_eq_true.mpr (List.forall_mem_cons.mpr ⟨Law_k18, List.forall_mem_cons.mpr ⟨Law_k236, List.forall_mem_cons.mpr ⟨Law_k299, List.forall_mem_cons.mpr ⟨Law_k322, List.forall_mem_cons.mpr ⟨Law_k335, List.forall_mem_cons.mpr ⟨Law_k358, List.forall_mem_cons.mpr ⟨Law_k391, List.forall_mem_cons.mpr ⟨Law_k404, List.forall_mem_cons.mpr ⟨Law_k417, List.forall_mem_cons.mpr ⟨Law_k450, List.forall_mem_cons.mpr ⟨Law_k483, List.forall_mem_cons.mpr ⟨Law_k516, List.forall_mem_cons.mpr ⟨Law_k549, List.forall_mem_cons.mpr ⟨Law_k562, List.forall_mem_cons.mpr ⟨Law_k575, List.forall_mem_cons.mpr ⟨Law_k588, List.forall_mem_cons.mpr ⟨Law_k601, List.forall_mem_cons.mpr ⟨Law_k624, List.forall_mem_cons.mpr ⟨Law_k657, List.forall_mem_cons.mpr ⟨Law_k670, List.forall_mem_cons.mpr ⟨Law_k713, List.forall_mem_cons.mpr ⟨Law_k736, List.forall_mem_cons.mpr ⟨Law_k759, List.forall_mem_cons.mpr ⟨Law_k792, List.forall_mem_cons.mpr ⟨Law_k805, List.forall_mem_cons.mpr ⟨Law_k838, List.forall_mem_cons.mpr ⟨Law_k861, List.forall_mem_cons.mpr ⟨Law_k874, List.forall_mem_cons.mpr ⟨Law_k887, List.forall_mem_cons.mpr ⟨Law_k900, List.forall_mem_cons.mpr ⟨Law_k923, List.forall_mem_cons.mpr ⟨Law_k936, List.forall_mem_cons.mpr ⟨Law_k959, List.forall_mem_cons.mpr ⟨Law_k992, List.forall_mem_cons.mpr ⟨Law_k1025, List.forall_mem_cons.mpr ⟨Law_k1048, List.forall_mem_cons.mpr ⟨Law_k1081, List.forall_mem_cons.mpr ⟨Law_k1094, List.forall_mem_cons.mpr ⟨Law_k1107, List.forall_mem_cons.mpr ⟨Law_k1130, List.forall_mem_cons.mpr ⟨Law_k1153, List.forall_mem_cons.mpr ⟨Law_k1154, List.forall_mem_cons.mpr ⟨Law_k1180, List.forall_mem_cons.mpr ⟨Law_k1181, List.forall_mem_cons.mpr ⟨Law_k1189, List.forall_mem_cons.mpr ⟨Law_k1212, List.forall_mem_cons.mpr ⟨Law_k1235, List.forall_mem_cons.mpr ⟨Law_k1258, List.forall_mem_cons.mpr ⟨Law_k1291, List.forall_mem_cons.mpr ⟨Law_k1324, List.forall_mem_cons.mpr ⟨Law_k1347, List.forall_mem_cons.mpr ⟨Law_k1370, List.forall_mem_cons.mpr ⟨Law_k1393, List.forall_mem_cons.mpr ⟨Law_k1399, fun _ h => absurd h List.not_mem_nil⟩⟩⟩⟩⟩⟩⟩⟩⟩⟩⟩⟩⟩⟩⟩⟩⟩⟩⟩⟩⟩⟩⟩⟩⟩⟩⟩⟩⟩⟩⟩⟩⟩⟩⟩⟩⟩⟩⟩⟩⟩⟩⟩⟩⟩⟩⟩⟩⟩⟩⟩⟩⟩⟩)
def Law_ct : Nat → Ct := fun n => match n with
  | 0 => Gh_feed_cs
  | 1 => Mo_feed_cs
  | 2 => Gh_end_cs
  | 3 => Mo_end_cs
  | 4 => Gh_family_cs
  | 5 => Mo_family_cs
  | 6 => Gh_fault_cs
  | 7 => Mo_fault_cs
  | 8 => Gh_person_cs
  | 9 => Mo_person_cs
  | 10 => Gh_hair_cs
  | 11 => Mo_hair_cs
  | 12 => Gh_day_cs
  | 13 => Mo_day_cs
  | 14 => Gh_ease_cs
  | 15 => Mo_ease_cs
  | 16 => Gh_take_cs
  | 17 => Mo_take_cs
  | 18 => Gh_tell_cs
  | 19 => Mo_tell_cs
  | 20 => Gh_forget_cs
  | 21 => Mo_forget_cs
  | 22 => Gh_pluck_cs
  | 23 => Mo_pluck_cs
  | 24 => Gh_dye_cs
  | 25 => Mo_dye_cs
  | 26 => Gh_undo_cs
  | 27 => Mo_undo_cs
  | 28 => Gh_redo_cs
  | 29 => Mo_redo_cs
  | 30 => Gh_will_cs
  | 31 => Mo_will_cs
  | 32 => Gh_cares_cs
  | 33 => Mo_cares_cs
  | 34 => Gh_next_cs
  | 35 => Mo_next_cs
  | 36 => Gh_spare_cs
  | 37 => Mo_spare_cs
  | 38 => Gh_easing_cs
  | 39 => Mo_easing_cs
  | 40 => Gh_hush_cs
  | 41 => Mo_hush_cs
  | 42 => Gh_knows_cs
  | 43 => Mo_knows_cs
  | 44 => Gh_wed_cs
  | 45 => Mo_wed_cs
  | 46 => Gh_nights_cs
  | 47 => Mo_nights_cs
  | 48 => Gh_returns_cs
  | 49 => Mo_returns_cs
  | 50 => Gh_rank_cs
  | 51 => Mo_rank_cs
  | 52 => Gh_words_cs
  | 53 => Mo_words_cs
  | 54 => Gh_peace_cs
  | 55 => Mo_peace_cs
  | 56 => Gh_burden_cs
  | 57 => Mo_burden_cs
  | 58 => Gh_calm_cs
  | 59 => Mo_calm_cs
  | 60 => Gh_law_cs
  | 61 => Mo_law_cs
  | 62 => Gh_odds_cs
  | 63 => Mo_odds_cs
  | 64 => Gh_duel_cs
  | 65 => Mo_duel_cs
  | 66 => Gh_path_cs
  | 67 => Mo_path_cs
  | 68 => Gh_silence_cs
  | 69 => Mo_silence_cs
  | 70 => Gh_alone_cs
  | 71 => Mo_alone_cs
  | 72 => Gh_heaviest_cs
  | 73 => Mo_heaviest_cs
  | 74 => Gh_lies_cs
  | 75 => Mo_lies_cs
  | 76 => Gh_seen_cs
  | 77 => Mo_seen_cs
  | 78 => Gh_untell_cs
  | 79 => Mo_untell_cs
  | 80 => Gh_later_cs
  | 81 => Mo_later_cs
  | 82 => Gh_fits_cs
  | 83 => Mo_fits_cs
  | 84 => Gh_sure_cs
  | 85 => Mo_sure_cs
  | 86 => Gh_ask_cs
  | 87 => Mo_ask_cs
  | 88 => Gh_image_cs
  | 89 => Mo_image_cs
  | 90 => Gh_back_cs
  | 91 => Mo_back_cs
  | 92 => Gh_about_cs
  | 93 => Mo_about_cs
  | _ => Gh_hair_cs
set_option maxRecDepth 100000 in
set_option maxHeartbeats 4000000 in
theorem Law_calls {l : Launch} {D : va_G} {ad : Nat → Nat} {ca : Nat → ClassId} {L : Nat} {fx : Nat → Int} : ∀ q ∈ Law_cl, ax_CW l D ad ca L fx 10 2000 q.1 (Law_ct q.2) := List.forall_mem_cons.mpr ⟨ax_cwV Gh_feed_met (by decide) (by decide) rfl (by decide) rfl (ax_m2 134 (by decide +kernel) rfl) Gh_feed_w rfl Gh_feed_ds, List.forall_mem_cons.mpr ⟨ax_cwV Mo_feed_met (by decide) (by decide) rfl (by decide) rfl (ax_m6 125 (by decide +kernel) rfl) Mo_feed_w rfl Mo_feed_ds, List.forall_mem_cons.mpr ⟨ax_cwV Gh_end_met (by decide) (by decide) rfl (by decide) rfl (ax_m2 146 (by decide +kernel) rfl) Gh_end_w rfl Gh_end_ds, List.forall_mem_cons.mpr ⟨ax_cwV Mo_end_met (by decide) (by decide) rfl (by decide) rfl (ax_m6 133 (by decide +kernel) rfl) Mo_end_w rfl Mo_end_ds, List.forall_mem_cons.mpr ⟨ax_cwV Gh_family_met (by decide) (by decide) rfl (by decide) rfl (ax_m2 150 (by decide +kernel) rfl) Gh_family_w rfl Gh_family_ds, List.forall_mem_cons.mpr ⟨ax_cwV Mo_family_met (by decide) (by decide) rfl (by decide) rfl (ax_m6 137 (by decide +kernel) rfl) Mo_family_w rfl Mo_family_ds, List.forall_mem_cons.mpr ⟨ax_cwV Gh_fault_met (by decide) (by decide) rfl (by decide) rfl (ax_m3 180 (by decide +kernel) rfl) Gh_fault_w rfl Gh_fault_ds, List.forall_mem_cons.mpr ⟨ax_cwV Mo_fault_met (by decide) (by decide) rfl (by decide) rfl (ax_m7 71 (by decide +kernel) rfl) Mo_fault_w rfl Mo_fault_ds, List.forall_mem_cons.mpr ⟨ax_cwV Gh_person_met (by decide) (by decide) rfl (by decide) rfl (ax_m3 184 (by decide +kernel) rfl) Gh_person_w rfl Gh_person_ds, List.forall_mem_cons.mpr ⟨ax_cwV Mo_person_met (by decide) (by decide) rfl (by decide) rfl (ax_m7 75 (by decide +kernel) rfl) Mo_person_w rfl Mo_person_ds, List.forall_mem_cons.mpr ⟨ax_cwV Gh_hair_met (by decide) (by decide) rfl (by decide) rfl (ax_m3 201 (by decide +kernel) rfl) Gh_hair_w rfl Gh_hair_ds, List.forall_mem_cons.mpr ⟨ax_cwV Mo_hair_met (by decide) (by decide) rfl (by decide) rfl (ax_m7 94 (by decide +kernel) rfl) Mo_hair_w rfl Mo_hair_ds, List.forall_mem_cons.mpr ⟨ax_cwV Gh_day_met (by decide) (by decide) rfl (by decide) rfl (ax_m3 205 (by decide +kernel) rfl) Gh_day_w rfl Gh_day_ds, List.forall_mem_cons.mpr ⟨ax_cwV Mo_day_met (by decide) (by decide) rfl (by decide) rfl (ax_m7 98 (by decide +kernel) rfl) Mo_day_w rfl Mo_day_ds, List.forall_mem_cons.mpr ⟨ax_cwV Gh_ease_met (by decide) (by decide) rfl (by decide) rfl (ax_m4 10 (by decide +kernel) rfl) Gh_ease_w rfl Gh_ease_ds, List.forall_mem_cons.mpr ⟨ax_cwV Mo_ease_met (by decide) (by decide) rfl (by decide) rfl (ax_m7 118 (by decide +kernel) rfl) Mo_ease_w rfl Mo_ease_ds, List.forall_mem_cons.mpr ⟨ax_cwV Gh_take_met (by decide) (by decide) rfl (by decide) rfl (ax_m4 18 (by decide +kernel) rfl) Gh_take_w rfl Gh_take_ds, List.forall_mem_cons.mpr ⟨ax_cwV Mo_take_met (by decide) (by decide) rfl (by decide) rfl (ax_m7 126 (by decide +kernel) rfl) Mo_take_w rfl Mo_take_ds, List.forall_mem_cons.mpr ⟨ax_cwV Gh_tell_met (by decide) (by decide) rfl (by decide) rfl (ax_m4 22 (by decide +kernel) rfl) Gh_tell_w rfl Gh_tell_ds, List.forall_mem_cons.mpr ⟨ax_cwV Mo_tell_met (by decide) (by decide) rfl (by decide) rfl (ax_m7 130 (by decide +kernel) rfl) Mo_tell_w rfl Mo_tell_ds, List.forall_mem_cons.mpr ⟨ax_cwV Gh_forget_met (by decide) (by decide) rfl (by decide) rfl (ax_m4 41 (by decide +kernel) rfl) Gh_forget_w rfl Gh_forget_ds, List.forall_mem_cons.mpr ⟨ax_cwV Mo_forget_met (by decide) (by decide) rfl (by decide) rfl (ax_m7 153 (by decide +kernel) rfl) Mo_forget_w rfl Mo_forget_ds, List.forall_mem_cons.mpr ⟨ax_cwV Gh_pluck_met (by decide) (by decide) rfl (by decide) rfl (ax_m4 45 (by decide +kernel) rfl) Gh_pluck_w rfl Gh_pluck_ds, List.forall_mem_cons.mpr ⟨ax_cwV Mo_pluck_met (by decide) (by decide) rfl (by decide) rfl (ax_m7 157 (by decide +kernel) rfl) Mo_pluck_w rfl Mo_pluck_ds, List.forall_mem_cons.mpr ⟨ax_cwV Gh_dye_met (by decide) (by decide) rfl (by decide) rfl (ax_m4 50 (by decide +kernel) rfl) Gh_dye_w rfl Gh_dye_ds, List.forall_mem_cons.mpr ⟨ax_cwV Mo_dye_met (by decide) (by decide) rfl (by decide) rfl (ax_m7 161 (by decide +kernel) rfl) Mo_dye_w rfl Mo_dye_ds, List.forall_mem_cons.mpr ⟨ax_cwV Gh_undo_met (by decide) (by decide) rfl (by decide) rfl (ax_m4 54 (by decide +kernel) rfl) Gh_undo_w rfl Gh_undo_ds, List.forall_mem_cons.mpr ⟨ax_cwV Mo_undo_met (by decide) (by decide) rfl (by decide) rfl (ax_m7 165 (by decide +kernel) rfl) Mo_undo_w rfl Mo_undo_ds, List.forall_mem_cons.mpr ⟨ax_cwV Gh_redo_met (by decide) (by decide) rfl (by decide) rfl (ax_m4 66 (by decide +kernel) rfl) Gh_redo_w rfl Gh_redo_ds, List.forall_mem_cons.mpr ⟨ax_cwV Mo_redo_met (by decide) (by decide) rfl (by decide) rfl (ax_m7 173 (by decide +kernel) rfl) Mo_redo_w rfl Mo_redo_ds, List.forall_mem_cons.mpr ⟨ax_cwV Gh_will_met (by decide) (by decide) rfl (by decide) rfl (ax_m4 74 (by decide +kernel) rfl) Gh_will_w rfl Gh_will_ds, List.forall_mem_cons.mpr ⟨ax_cwV Mo_will_met (by decide) (by decide) rfl (by decide) rfl (ax_m7 177 (by decide +kernel) rfl) Mo_will_w rfl Mo_will_ds, List.forall_mem_cons.mpr ⟨ax_cwV Gh_cares_met (by decide) (by decide) rfl (by decide) rfl (ax_m4 90 (by decide +kernel) rfl) Gh_cares_w rfl Gh_cares_ds, List.forall_mem_cons.mpr ⟨ax_cwV Mo_cares_met (by decide) (by decide) rfl (by decide) rfl (ax_m7 181 (by decide +kernel) rfl) Mo_cares_w rfl Mo_cares_ds, List.forall_mem_cons.mpr ⟨ax_cwV Gh_next_met (by decide) (by decide) rfl (by decide) rfl (ax_m4 94 (by decide +kernel) rfl) Gh_next_w rfl Gh_next_ds, List.forall_mem_cons.mpr ⟨ax_cwV Mo_next_met (by decide) (by decide) rfl (by decide) rfl (ax_m7 193 (by decide +kernel) rfl) Mo_next_w rfl Mo_next_ds, List.forall_mem_cons.mpr ⟨ax_cwV Gh_spare_met (by decide) (by decide) rfl (by decide) rfl (ax_m4 98 (by decide +kernel) rfl) Gh_spare_w rfl Gh_spare_ds, List.forall_mem_cons.mpr ⟨ax_cwV Mo_spare_met (by decide) (by decide) rfl (by decide) rfl (ax_m7 197 (by decide +kernel) rfl) Mo_spare_w rfl Mo_spare_ds, List.forall_mem_cons.mpr ⟨ax_cwV Gh_easing_met (by decide) (by decide) rfl (by decide) rfl (ax_m4 114 (by decide +kernel) rfl) Gh_easing_w rfl Gh_easing_ds, List.forall_mem_cons.mpr ⟨ax_cwV Mo_easing_met (by decide) (by decide) rfl (by decide) rfl (ax_m7 205 (by decide +kernel) rfl) Mo_easing_w rfl Mo_easing_ds, List.forall_mem_cons.mpr ⟨ax_cwV Gh_hush_met (by decide) (by decide) rfl (by decide) rfl (ax_m4 122 (by decide +kernel) rfl) Gh_hush_w rfl Gh_hush_ds, List.forall_mem_cons.mpr ⟨ax_cwV Mo_hush_met (by decide) (by decide) rfl (by decide) rfl (ax_m7 209 (by decide +kernel) rfl) Mo_hush_w rfl Mo_hush_ds, List.forall_mem_cons.mpr ⟨ax_cwV Gh_knows_met (by decide) (by decide) rfl (by decide) rfl (ax_m4 153 (by decide +kernel) rfl) Gh_knows_w rfl Gh_knows_ds, List.forall_mem_cons.mpr ⟨ax_cwV Mo_knows_met (by decide) (by decide) rfl (by decide) rfl (ax_m7 217 (by decide +kernel) rfl) Mo_knows_w rfl Mo_knows_ds, List.forall_mem_cons.mpr ⟨ax_cwV Gh_wed_met (by decide) (by decide) rfl (by decide) rfl (ax_m4 157 (by decide +kernel) rfl) Gh_wed_w rfl Gh_wed_ds, List.forall_mem_cons.mpr ⟨ax_cwV Mo_wed_met (by decide) (by decide) rfl (by decide) rfl (ax_m7 221 (by decide +kernel) rfl) Mo_wed_w rfl Mo_wed_ds, List.forall_mem_cons.mpr ⟨ax_cwV Gh_nights_met (by decide) (by decide) rfl (by decide) rfl (ax_m4 178 (by decide +kernel) rfl) Gh_nights_w rfl Gh_nights_ds, List.forall_mem_cons.mpr ⟨ax_cwV Mo_nights_met (by decide) (by decide) rfl (by decide) rfl (ax_m7 233 (by decide +kernel) rfl) Mo_nights_w rfl Mo_nights_ds, List.forall_mem_cons.mpr ⟨ax_cwV Gh_returns_met (by decide) (by decide) rfl (by decide) rfl (ax_m4 186 (by decide +kernel) rfl) Gh_returns_w rfl Gh_returns_ds, List.forall_mem_cons.mpr ⟨ax_cwV Mo_returns_met (by decide) (by decide) rfl (by decide) rfl (ax_m7 237 (by decide +kernel) rfl) Mo_returns_w rfl Mo_returns_ds, List.forall_mem_cons.mpr ⟨ax_cwV Gh_rank_met (by decide) (by decide) rfl (by decide) rfl (ax_m4 194 (by decide +kernel) rfl) Gh_rank_w rfl Gh_rank_ds, List.forall_mem_cons.mpr ⟨ax_cwV Mo_rank_met (by decide) (by decide) rfl (by decide) rfl (ax_m8 1 (by decide +kernel) rfl) Mo_rank_w rfl Mo_rank_ds, List.forall_mem_cons.mpr ⟨ax_cwV Gh_words_met (by decide) (by decide) rfl (by decide) rfl (ax_m4 202 (by decide +kernel) rfl) Gh_words_w rfl Gh_words_ds, List.forall_mem_cons.mpr ⟨ax_cwV Mo_words_met (by decide) (by decide) rfl (by decide) rfl (ax_m8 5 (by decide +kernel) rfl) Mo_words_w rfl Mo_words_ds, List.forall_mem_cons.mpr ⟨ax_cwV Gh_peace_met (by decide) (by decide) rfl (by decide) rfl (ax_m4 211 (by decide +kernel) rfl) Gh_peace_w rfl Gh_peace_ds, List.forall_mem_cons.mpr ⟨ax_cwV Mo_peace_met (by decide) (by decide) rfl (by decide) rfl (ax_m8 10 (by decide +kernel) rfl) Mo_peace_w rfl Mo_peace_ds, List.forall_mem_cons.mpr ⟨ax_cwV Gh_burden_met (by decide) (by decide) rfl (by decide) rfl (ax_m4 215 (by decide +kernel) rfl) Gh_burden_w rfl Gh_burden_ds, List.forall_mem_cons.mpr ⟨ax_cwV Mo_burden_met (by decide) (by decide) rfl (by decide) rfl (ax_m8 14 (by decide +kernel) rfl) Mo_burden_w rfl Mo_burden_ds, List.forall_mem_cons.mpr ⟨ax_cwV Gh_calm_met (by decide) (by decide) rfl (by decide) rfl (ax_m4 224 (by decide +kernel) rfl) Gh_calm_w rfl Gh_calm_ds, List.forall_mem_cons.mpr ⟨ax_cwV Mo_calm_met (by decide) (by decide) rfl (by decide) rfl (ax_m8 18 (by decide +kernel) rfl) Mo_calm_w rfl Mo_calm_ds, List.forall_mem_cons.mpr ⟨ax_cwV Gh_law_met (by decide) (by decide) rfl (by decide) rfl (ax_m4 233 (by decide +kernel) rfl) Gh_law_w rfl Gh_law_ds, List.forall_mem_cons.mpr ⟨ax_cwV Mo_law_met (by decide) (by decide) rfl (by decide) rfl (ax_m8 22 (by decide +kernel) rfl) Mo_law_w rfl Mo_law_ds, List.forall_mem_cons.mpr ⟨ax_cwV Gh_odds_met (by decide) (by decide) rfl (by decide) rfl (ax_m4 237 (by decide +kernel) rfl) Gh_odds_w rfl Gh_odds_ds, List.forall_mem_cons.mpr ⟨ax_cwV Mo_odds_met (by decide) (by decide) rfl (by decide) rfl (ax_m8 26 (by decide +kernel) rfl) Mo_odds_w rfl Mo_odds_ds, List.forall_mem_cons.mpr ⟨ax_cwV Gh_duel_met (by decide) (by decide) rfl (by decide) rfl (ax_m5 12 (by decide +kernel) rfl) Gh_duel_w rfl Gh_duel_ds, List.forall_mem_cons.mpr ⟨ax_cwV Mo_duel_met (by decide) (by decide) rfl (by decide) rfl (ax_m8 37 (by decide +kernel) rfl) Mo_duel_w rfl Mo_duel_ds, List.forall_mem_cons.mpr ⟨ax_cwV Gh_path_met (by decide) (by decide) rfl (by decide) rfl (ax_m5 24 (by decide +kernel) rfl) Gh_path_w rfl Gh_path_ds, List.forall_mem_cons.mpr ⟨ax_cwV Mo_path_met (by decide) (by decide) rfl (by decide) rfl (ax_m8 48 (by decide +kernel) rfl) Mo_path_w rfl Mo_path_ds, List.forall_mem_cons.mpr ⟨ax_cwV Gh_silence_met (by decide) (by decide) rfl (by decide) rfl (ax_m5 32 (by decide +kernel) rfl) Gh_silence_w rfl Gh_silence_ds, List.forall_mem_cons.mpr ⟨ax_cwV Mo_silence_met (by decide) (by decide) rfl (by decide) rfl (ax_m8 52 (by decide +kernel) rfl) Mo_silence_w rfl Mo_silence_ds, List.forall_mem_cons.mpr ⟨ax_cwV Gh_alone_met (by decide) (by decide) rfl (by decide) rfl (ax_m5 41 (by decide +kernel) rfl) Gh_alone_w rfl Gh_alone_ds, List.forall_mem_cons.mpr ⟨ax_cwV Mo_alone_met (by decide) (by decide) rfl (by decide) rfl (ax_m8 56 (by decide +kernel) rfl) Mo_alone_w rfl Mo_alone_ds, List.forall_mem_cons.mpr ⟨ax_cwV Gh_heaviest_met (by decide) (by decide) rfl (by decide) rfl (ax_m5 45 (by decide +kernel) rfl) Gh_heaviest_w rfl Gh_heaviest_ds, List.forall_mem_cons.mpr ⟨ax_cwV Mo_heaviest_met (by decide) (by decide) rfl (by decide) rfl (ax_m8 60 (by decide +kernel) rfl) Mo_heaviest_w rfl Mo_heaviest_ds, List.forall_mem_cons.mpr ⟨ax_cwV Gh_lies_met (by decide) (by decide) rfl (by decide) rfl (ax_m5 49 (by decide +kernel) rfl) Gh_lies_w rfl Gh_lies_ds, List.forall_mem_cons.mpr ⟨ax_cwV Mo_lies_met (by decide) (by decide) rfl (by decide) rfl (ax_m8 64 (by decide +kernel) rfl) Mo_lies_w rfl Mo_lies_ds, List.forall_mem_cons.mpr ⟨ax_cwV Gh_seen_met (by decide) (by decide) rfl (by decide) rfl (ax_m5 53 (by decide +kernel) rfl) Gh_seen_w rfl Gh_seen_ds, List.forall_mem_cons.mpr ⟨ax_cwV Mo_seen_met (by decide) (by decide) rfl (by decide) rfl (ax_m8 68 (by decide +kernel) rfl) Mo_seen_w rfl Mo_seen_ds, List.forall_mem_cons.mpr ⟨ax_cwV Gh_untell_met (by decide) (by decide) rfl (by decide) rfl (ax_m5 61 (by decide +kernel) rfl) Gh_untell_w rfl Gh_untell_ds, List.forall_mem_cons.mpr ⟨ax_cwV Mo_untell_met (by decide) (by decide) rfl (by decide) rfl (ax_m8 72 (by decide +kernel) rfl) Mo_untell_w rfl Mo_untell_ds, List.forall_mem_cons.mpr ⟨ax_cwV Gh_later_met (by decide) (by decide) rfl (by decide) rfl (ax_m5 69 (by decide +kernel) rfl) Gh_later_w rfl Gh_later_ds, List.forall_mem_cons.mpr ⟨ax_cwV Mo_later_met (by decide) (by decide) rfl (by decide) rfl (ax_m8 76 (by decide +kernel) rfl) Mo_later_w rfl Mo_later_ds, List.forall_mem_cons.mpr ⟨ax_cwV Gh_fits_met (by decide) (by decide) rfl (by decide) rfl (ax_m5 74 (by decide +kernel) rfl) Gh_fits_w rfl Gh_fits_ds, List.forall_mem_cons.mpr ⟨ax_cwV Mo_fits_met (by decide) (by decide) rfl (by decide) rfl (ax_m8 81 (by decide +kernel) rfl) Mo_fits_w rfl Mo_fits_ds, List.forall_mem_cons.mpr ⟨ax_cwV Gh_sure_met (by decide) (by decide) rfl (by decide) rfl (ax_m5 96 (by decide +kernel) rfl) Gh_sure_w rfl Gh_sure_ds, List.forall_mem_cons.mpr ⟨ax_cwV Mo_sure_met (by decide) (by decide) rfl (by decide) rfl (ax_m8 93 (by decide +kernel) rfl) Mo_sure_w rfl Mo_sure_ds, List.forall_mem_cons.mpr ⟨ax_cwV Gh_ask_met (by decide) (by decide) rfl (by decide) rfl (ax_m5 108 (by decide +kernel) rfl) Gh_ask_w rfl Gh_ask_ds, List.forall_mem_cons.mpr ⟨ax_cwV Mo_ask_met (by decide) (by decide) rfl (by decide) rfl (ax_m8 97 (by decide +kernel) rfl) Mo_ask_w rfl Mo_ask_ds, List.forall_mem_cons.mpr ⟨ax_cwV Gh_image_met (by decide) (by decide) rfl (by decide) rfl (ax_m5 122 (by decide +kernel) rfl) Gh_image_w rfl Gh_image_ds, List.forall_mem_cons.mpr ⟨ax_cwV Mo_image_met (by decide) (by decide) rfl (by decide) rfl (ax_m8 105 (by decide +kernel) rfl) Mo_image_w rfl Mo_image_ds, List.forall_mem_cons.mpr ⟨ax_cwV Gh_back_met (by decide) (by decide) rfl (by decide) rfl (ax_m5 131 (by decide +kernel) rfl) Gh_back_w rfl Gh_back_ds, List.forall_mem_cons.mpr ⟨ax_cwV Mo_back_met (by decide) (by decide) rfl (by decide) rfl (ax_m8 112 (by decide +kernel) rfl) Mo_back_w rfl Mo_back_ds, List.forall_mem_cons.mpr ⟨ax_cwV Gh_about_met (by decide) (by decide) rfl (by decide) rfl (ax_m5 140 (by decide +kernel) rfl) Gh_about_w rfl Gh_about_ds, List.forall_mem_cons.mpr ⟨ax_cwV Mo_about_met (by decide) (by decide) rfl (by decide) rfl (ax_m8 116 (by decide +kernel) rfl) Mo_about_w rfl Mo_about_ds, fun _ h => absurd h List.not_mem_nil⟩⟩⟩⟩⟩⟩⟩⟩⟩⟩⟩⟩⟩⟩⟩⟩⟩⟩⟩⟩⟩⟩⟩⟩⟩⟩⟩⟩⟩⟩⟩⟩⟩⟩⟩⟩⟩⟩⟩⟩⟩⟩⟩⟩⟩⟩⟩⟩⟩⟩⟩⟩⟩⟩⟩⟩⟩⟩⟩⟩⟩⟩⟩⟩⟩⟩⟩⟩⟩⟩⟩⟩⟩⟩⟩⟩⟩⟩⟩⟩⟩⟩⟩⟩⟩⟩⟩⟩⟩⟩⟩⟩⟩⟩
abbrev lwKT : Type := Nat → List AV → List AV → Hp → Prop
abbrev lwL (L : Nat) (v3 : Int) : List AV := [.inr (.inr (.inl (1002, 7, L))), .inr (.inr (.inl (0, 0, 8))), .inr (.inr (.inl (67, 0, 9))), .inl v3]
def lwRt (v : Option AV) (_ : Hp) : Prop := v = some (.inl 1)
theorem Law_c236 {L : Nat} {fx : Nat → Int} {K : lwKT} {v3 : Int} {σ : Hp} (b1 : 0 ≤ wr (v3 + 1) ∧ wr (v3 + 1) < (L : Int)) (b2 : 0 ≤ wr (v3 + 2) ∧ wr (v3 + 2) < (L : Int)) (b3 : 0 ≤ wr (v3 + 3) ∧ wr (v3 + 3) < (L : Int)) (b4 : 0 ≤ wr (v3 + 4) ∧ wr (v3 + 4) < (L : Int)) (b5 : 0 ≤ wr (v3 + 5) ∧ wr (v3 + 5) < (L : Int)) (hL : ∃ d, LI d σ) (hK : ∀ σ', (∃ d, LI d σ') → K 1393 [] (lwL L v3) σ') :
  (0 ≤ wr (v3 + 1) ∧ wr (v3 + 1) < (L : Int)) ∧
  (0 ≤ wr (v3 + 2) ∧ wr (v3 + 2) < (L : Int)) ∧
  (0 ≤ wr (v3 + 3) ∧ wr (v3 + 3) < (L : Int)) ∧
  (0 ≤ wr (v3 + 4) ∧ wr (v3 + 4) < (L : Int)) ∧
  (0 ≤ wr (v3 + 5) ∧ wr (v3 + 5) < (L : Int)) ∧
  Gh_feed_pre 0 (fx (wr (v3 + 1)).toNat) (fx (wr (v3 + 2)).toNat) (fx (wr (v3 + 3)).toNat) (fx (wr (v3 + 4)).toNat) (fx (wr (v3 + 5)).toNat) σ ∧
  ∀ (r2 : Int) (σ1 : Hp), Gh_feed_post 0 (fx (wr (v3 + 1)).toNat) (fx (wr (v3 + 2)).toNat) (fx (wr (v3 + 3)).toNat) (fx (wr (v3 + 4)).toNat) (fx (wr (v3 + 5)).toNat) σ r2 σ1 →
  (0 ≤ wr (v3 + 1) ∧ wr (v3 + 1) < (L : Int)) ∧
  (0 ≤ wr (v3 + 2) ∧ wr (v3 + 2) < (L : Int)) ∧
  (0 ≤ wr (v3 + 3) ∧ wr (v3 + 3) < (L : Int)) ∧
  (0 ≤ wr (v3 + 4) ∧ wr (v3 + 4) < (L : Int)) ∧
  (0 ≤ wr (v3 + 5) ∧ wr (v3 + 5) < (L : Int)) ∧
  Mo_feed_pre 67 (fx (wr (v3 + 1)).toNat) (fx (wr (v3 + 2)).toNat) (fx (wr (v3 + 3)).toNat) (fx (wr (v3 + 4)).toNat) (fx (wr (v3 + 5)).toNat) σ1 ∧
  ∀ (r4 : Int) (σ3 : Hp), Mo_feed_post 67 (fx (wr (v3 + 1)).toNat) (fx (wr (v3 + 2)).toNat) (fx (wr (v3 + 3)).toNat) (fx (wr (v3 + 4)).toNat) (fx (wr (v3 + 5)).toNat) σ1 r4 σ3 →
  (r2 = r4 →
    K 1393 [] [.inr (.inr (.inl (1002, 7, L))), .inr (.inr (.inl (0, 0, 8))), .inr (.inr (.inl (67, 0, 9))), .inl v3] σ3) ∧
  (¬ (r2 = r4) →
    (some (.inl 0) : Option AV) = some (.inl 1)) := by
  obtain ⟨d, hl⟩ := hL
  refine ⟨b1, b2, b3, b4, b5, ⟨rfl, hl.xp⟩, fun r2 σ1 g1 => ⟨b1, b2, b3, b4, b5, ⟨rfl, hl.mp g1.1⟩, fun r4 σ3 g2 => ?_⟩⟩
  have ag := agree (S := fun A => s_feed A (fx (wr (v3 + 1)).toNat) (fx (wr (v3 + 2)).toNat) (fx (wr (v3 + 3)).toNat) (fx (wr (v3 + 4)).toNat) (fx (wr (v3 + 5)).toNat)) (d' := d) hl (fun h => uq_feed _ _ _ _ _ _) (fun _ _ h g => w_feed h g) g1 g2.1 (g2.2 d)
  exact ⟨fun _ => hK σ3 ⟨d, ag.2⟩, fun z => absurd ag.1 z⟩
theorem Law_c299 {L : Nat} {fx : Nat → Int} {K : lwKT} {v3 : Int} {σ : Hp} (b1 : 0 ≤ wr (v3 + 1) ∧ wr (v3 + 1) < (L : Int)) (b2 : 0 ≤ wr (v3 + 2) ∧ wr (v3 + 2) < (L : Int)) (b3 : 0 ≤ wr (v3 + 3) ∧ wr (v3 + 3) < (L : Int)) (b4 : 0 ≤ wr (v3 + 4) ∧ wr (v3 + 4) < (L : Int)) (b5 : 0 ≤ wr (v3 + 5) ∧ wr (v3 + 5) < (L : Int)) (hL : ∃ d, LI d σ) (hK : ∀ σ', (∃ d, LI d σ') → K 1393 [] (lwL L v3) σ') :
  (0 ≤ wr (v3 + 1) ∧ wr (v3 + 1) < (L : Int)) ∧
  Gh_end_pre 0 (fx (wr (v3 + 1)).toNat) σ ∧
  ∀ (r2 : Int) (σ1 : Hp), Gh_end_post 0 (fx (wr (v3 + 1)).toNat) σ r2 σ1 →
  (0 ≤ wr (v3 + 1) ∧ wr (v3 + 1) < (L : Int)) ∧
  Mo_end_pre 67 (fx (wr (v3 + 1)).toNat) σ1 ∧
  ∀ (r4 : Int) (σ3 : Hp), Mo_end_post 67 (fx (wr (v3 + 1)).toNat) σ1 r4 σ3 →
  (r2 = r4 →
    K 1393 [] [.inr (.inr (.inl (1002, 7, L))), .inr (.inr (.inl (0, 0, 8))), .inr (.inr (.inl (67, 0, 9))), .inl v3] σ3) ∧
  (¬ (r2 = r4) →
    (some (.inl 0) : Option AV) = some (.inl 1)) := by
  obtain ⟨d, hl⟩ := hL
  refine ⟨b1, ⟨rfl, hl.xp⟩, fun r2 σ1 g1 => ⟨b1, ⟨rfl, hl.mp g1.1⟩, fun r4 σ3 g2 => ?_⟩⟩
  have ag := agree (S := fun A => s_end A (fx (wr (v3 + 1)).toNat)) (d' := d) hl (fun h => uq_end _ _) (fun _ _ h g => w_end h g) g1 g2.1 (g2.2 d)
  exact ⟨fun _ => hK σ3 ⟨d, ag.2⟩, fun z => absurd ag.1 z⟩
theorem Law_c322 {L : Nat} {fx : Nat → Int} {K : lwKT} {v3 : Int} {σ : Hp} (b1 : 0 ≤ wr (v3 + 1) ∧ wr (v3 + 1) < (L : Int)) (b2 : 0 ≤ wr (v3 + 2) ∧ wr (v3 + 2) < (L : Int)) (b3 : 0 ≤ wr (v3 + 3) ∧ wr (v3 + 3) < (L : Int)) (b4 : 0 ≤ wr (v3 + 4) ∧ wr (v3 + 4) < (L : Int)) (b5 : 0 ≤ wr (v3 + 5) ∧ wr (v3 + 5) < (L : Int)) (hL : ∃ d, LI d σ) (hK : ∀ σ', (∃ d, LI d σ') → K 1393 [] (lwL L v3) σ') :
  Gh_family_pre 0 σ ∧
  ∀ (r2 : Int) (σ1 : Hp), Gh_family_post 0 σ r2 σ1 →
  Mo_family_pre 67 σ1 ∧
  ∀ (r4 : Int) (σ3 : Hp), Mo_family_post 67 σ1 r4 σ3 →
  (r2 = r4 →
    K 1393 [] [.inr (.inr (.inl (1002, 7, L))), .inr (.inr (.inl (0, 0, 8))), .inr (.inr (.inl (67, 0, 9))), .inl v3] σ3) ∧
  (¬ (r2 = r4) →
    (some (.inl 0) : Option AV) = some (.inl 1)) := by
  obtain ⟨d, hl⟩ := hL
  refine ⟨⟨rfl, hl.xp⟩, fun r2 σ1 g1 => ⟨⟨rfl, hl.mp g1.1, fun x hx => g1.2.2 x ?_⟩, fun r4 σ3 g2 => ?_⟩⟩
  · have e := (M_ext hl.2.1 (fun c hc => g1.1.2 c hc)).2 d
    have e2 : tpM σ1 = tpM σ := congrArg (fun A : AS => A.1) e
    rw [e2] at hx
    rw [hl.2.2.2]
    exact hx
  · obtain ⟨d', g3⟩ := g2.2 d
    have ag := agree (S := s_family) (d' := d') hl (fun _ => uq_family _) (fun _ _ h g => w_family h g1.2.2 g) ⟨g1.1, g1.2.1⟩ g2.1 g3
    exact ⟨fun _ => hK σ3 ⟨d', ag.2⟩, fun z => absurd ag.1 z⟩
theorem Law_c335 {L : Nat} {fx : Nat → Int} {K : lwKT} {v3 : Int} {σ : Hp} (b1 : 0 ≤ wr (v3 + 1) ∧ wr (v3 + 1) < (L : Int)) (b2 : 0 ≤ wr (v3 + 2) ∧ wr (v3 + 2) < (L : Int)) (b3 : 0 ≤ wr (v3 + 3) ∧ wr (v3 + 3) < (L : Int)) (b4 : 0 ≤ wr (v3 + 4) ∧ wr (v3 + 4) < (L : Int)) (b5 : 0 ≤ wr (v3 + 5) ∧ wr (v3 + 5) < (L : Int)) (hL : ∃ d, LI d σ) (hK : ∀ σ', (∃ d, LI d σ') → K 1393 [] (lwL L v3) σ') :
  (0 ≤ wr (v3 + 1) ∧ wr (v3 + 1) < (L : Int)) ∧
  Gh_fault_pre 0 (fx (wr (v3 + 1)).toNat) σ ∧
  ∀ (r2 : Int) (σ1 : Hp), Gh_fault_post 0 (fx (wr (v3 + 1)).toNat) σ r2 σ1 →
  (0 ≤ wr (v3 + 1) ∧ wr (v3 + 1) < (L : Int)) ∧
  Mo_fault_pre 67 (fx (wr (v3 + 1)).toNat) σ1 ∧
  ∀ (r4 : Int) (σ3 : Hp), Mo_fault_post 67 (fx (wr (v3 + 1)).toNat) σ1 r4 σ3 →
  (r2 = r4 →
    K 1393 [] [.inr (.inr (.inl (1002, 7, L))), .inr (.inr (.inl (0, 0, 8))), .inr (.inr (.inl (67, 0, 9))), .inl v3] σ3) ∧
  (¬ (r2 = r4) →
    (some (.inl 0) : Option AV) = some (.inl 1)) := by
  obtain ⟨d, hl⟩ := hL
  refine ⟨b1, ⟨rfl, hl.xp⟩, fun r2 σ1 g1 => ⟨b1, ⟨rfl, hl.mp g1.1⟩, fun r4 σ3 g2 => ?_⟩⟩
  have ag := agree (S := fun A => s_fault A (fx (wr (v3 + 1)).toNat)) (d' := d) hl (fun h => uq_fault _ _) (fun _ _ h g => w_Ob h g) g1 g2.1 (g2.2 d)
  exact ⟨fun _ => hK σ3 ⟨d, ag.2⟩, fun z => absurd ag.1 z⟩
theorem Law_c358 {L : Nat} {fx : Nat → Int} {K : lwKT} {v3 : Int} {σ : Hp} (b1 : 0 ≤ wr (v3 + 1) ∧ wr (v3 + 1) < (L : Int)) (b2 : 0 ≤ wr (v3 + 2) ∧ wr (v3 + 2) < (L : Int)) (b3 : 0 ≤ wr (v3 + 3) ∧ wr (v3 + 3) < (L : Int)) (b4 : 0 ≤ wr (v3 + 4) ∧ wr (v3 + 4) < (L : Int)) (b5 : 0 ≤ wr (v3 + 5) ∧ wr (v3 + 5) < (L : Int)) (hL : ∃ d, LI d σ) (hK : ∀ σ', (∃ d, LI d σ') → K 1393 [] (lwL L v3) σ') :
  (0 ≤ wr (v3 + 1) ∧ wr (v3 + 1) < (L : Int)) ∧
  (0 ≤ wr (v3 + 2) ∧ wr (v3 + 2) < (L : Int)) ∧
  Gh_person_pre 0 (fx (wr (v3 + 1)).toNat) (fx (wr (v3 + 2)).toNat) σ ∧
  ∀ (r2 : Int) (σ1 : Hp), Gh_person_post 0 (fx (wr (v3 + 1)).toNat) (fx (wr (v3 + 2)).toNat) σ r2 σ1 →
  (0 ≤ wr (v3 + 1) ∧ wr (v3 + 1) < (L : Int)) ∧
  (0 ≤ wr (v3 + 2) ∧ wr (v3 + 2) < (L : Int)) ∧
  Mo_person_pre 67 (fx (wr (v3 + 1)).toNat) (fx (wr (v3 + 2)).toNat) σ1 ∧
  ∀ (r4 : Int) (σ3 : Hp), Mo_person_post 67 (fx (wr (v3 + 1)).toNat) (fx (wr (v3 + 2)).toNat) σ1 r4 σ3 →
  (r2 = r4 →
    K 1393 [] [.inr (.inr (.inl (1002, 7, L))), .inr (.inr (.inl (0, 0, 8))), .inr (.inr (.inl (67, 0, 9))), .inl v3] σ3) ∧
  (¬ (r2 = r4) →
    (some (.inl 0) : Option AV) = some (.inl 1)) := by
  obtain ⟨d, hl⟩ := hL
  refine ⟨b1, b2, ⟨rfl, hl.xp⟩, fun r2 σ1 g1 => ⟨b1, b2, ⟨rfl, hl.mp g1.1⟩, fun r4 σ3 g2 => ?_⟩⟩
  have ag := agree (S := fun A => s_person A (fx (wr (v3 + 1)).toNat) (fx (wr (v3 + 2)).toNat)) (d' := d) hl (fun h => uq_person _ _ _) (fun _ _ h g => w_Ob h g) g1 g2.1 (g2.2 d)
  exact ⟨fun _ => hK σ3 ⟨d, ag.2⟩, fun z => absurd ag.1 z⟩
theorem Law_c391 {L : Nat} {fx : Nat → Int} {K : lwKT} {v3 : Int} {σ : Hp} (b1 : 0 ≤ wr (v3 + 1) ∧ wr (v3 + 1) < (L : Int)) (b2 : 0 ≤ wr (v3 + 2) ∧ wr (v3 + 2) < (L : Int)) (b3 : 0 ≤ wr (v3 + 3) ∧ wr (v3 + 3) < (L : Int)) (b4 : 0 ≤ wr (v3 + 4) ∧ wr (v3 + 4) < (L : Int)) (b5 : 0 ≤ wr (v3 + 5) ∧ wr (v3 + 5) < (L : Int)) (hL : ∃ d, LI d σ) (hK : ∀ σ', (∃ d, LI d σ') → K 1393 [] (lwL L v3) σ') :
  Gh_hair_pre 0 σ ∧
  ∀ (r2 : Int) (σ1 : Hp), Gh_hair_post 0 σ r2 σ1 →
  Mo_hair_pre 67 σ1 ∧
  ∀ (r4 : Int) (σ3 : Hp), Mo_hair_post 67 σ1 r4 σ3 →
  (r2 = r4 →
    K 1393 [] [.inr (.inr (.inl (1002, 7, L))), .inr (.inr (.inl (0, 0, 8))), .inr (.inr (.inl (67, 0, 9))), .inl v3] σ3) ∧
  (¬ (r2 = r4) →
    (some (.inl 0) : Option AV) = some (.inl 1)) := by
  obtain ⟨d, hl⟩ := hL
  refine ⟨⟨rfl, hl.xp⟩, fun r2 σ1 g1 => ⟨⟨rfl, hl.mp g1.1⟩, fun r4 σ3 g2 => ?_⟩⟩
  have ag := agree (S := fun A => s_hair A) (d' := d) hl (fun h => uq_hair _) (fun _ _ h g => w_Ob h g) g1 g2.1 (g2.2 d)
  exact ⟨fun _ => hK σ3 ⟨d, ag.2⟩, fun z => absurd ag.1 z⟩
theorem Law_c404 {L : Nat} {fx : Nat → Int} {K : lwKT} {v3 : Int} {σ : Hp} (b1 : 0 ≤ wr (v3 + 1) ∧ wr (v3 + 1) < (L : Int)) (b2 : 0 ≤ wr (v3 + 2) ∧ wr (v3 + 2) < (L : Int)) (b3 : 0 ≤ wr (v3 + 3) ∧ wr (v3 + 3) < (L : Int)) (b4 : 0 ≤ wr (v3 + 4) ∧ wr (v3 + 4) < (L : Int)) (b5 : 0 ≤ wr (v3 + 5) ∧ wr (v3 + 5) < (L : Int)) (hL : ∃ d, LI d σ) (hK : ∀ σ', (∃ d, LI d σ') → K 1393 [] (lwL L v3) σ') :
  Gh_day_pre 0 σ ∧
  ∀ (r2 : Int) (σ1 : Hp), Gh_day_post 0 σ r2 σ1 →
  Mo_day_pre 67 σ1 ∧
  ∀ (r4 : Int) (σ3 : Hp), Mo_day_post 67 σ1 r4 σ3 →
  (r2 = r4 →
    K 1393 [] [.inr (.inr (.inl (1002, 7, L))), .inr (.inr (.inl (0, 0, 8))), .inr (.inr (.inl (67, 0, 9))), .inl v3] σ3) ∧
  (¬ (r2 = r4) →
    (some (.inl 0) : Option AV) = some (.inl 1)) := by
  obtain ⟨d, hl⟩ := hL
  refine ⟨⟨rfl, hl.xp⟩, fun r2 σ1 g1 => ⟨⟨rfl, hl.mp g1.1⟩, fun r4 σ3 g2 => ?_⟩⟩
  have ag := agree (S := fun A => s_day A) (d' := d) hl (fun h => uq_day _) (fun _ _ h g => w_day h g) g1 g2.1 (g2.2 d)
  exact ⟨fun _ => hK σ3 ⟨d, ag.2⟩, fun z => absurd ag.1 z⟩
theorem Law_c417 {L : Nat} {fx : Nat → Int} {K : lwKT} {v3 : Int} {σ : Hp} (b1 : 0 ≤ wr (v3 + 1) ∧ wr (v3 + 1) < (L : Int)) (b2 : 0 ≤ wr (v3 + 2) ∧ wr (v3 + 2) < (L : Int)) (b3 : 0 ≤ wr (v3 + 3) ∧ wr (v3 + 3) < (L : Int)) (b4 : 0 ≤ wr (v3 + 4) ∧ wr (v3 + 4) < (L : Int)) (b5 : 0 ≤ wr (v3 + 5) ∧ wr (v3 + 5) < (L : Int)) (hL : ∃ d, LI d σ) (hK : ∀ σ', (∃ d, LI d σ') → K 1393 [] (lwL L v3) σ') :
  (0 ≤ wr (v3 + 1) ∧ wr (v3 + 1) < (L : Int)) ∧
  (0 ≤ wr (v3 + 2) ∧ wr (v3 + 2) < (L : Int)) ∧
  Gh_ease_pre 0 (fx (wr (v3 + 1)).toNat) (fx (wr (v3 + 2)).toNat) σ ∧
  ∀ (r2 : Int) (σ1 : Hp), Gh_ease_post 0 (fx (wr (v3 + 1)).toNat) (fx (wr (v3 + 2)).toNat) σ r2 σ1 →
  (0 ≤ wr (v3 + 1) ∧ wr (v3 + 1) < (L : Int)) ∧
  (0 ≤ wr (v3 + 2) ∧ wr (v3 + 2) < (L : Int)) ∧
  Mo_ease_pre 67 (fx (wr (v3 + 1)).toNat) (fx (wr (v3 + 2)).toNat) σ1 ∧
  ∀ (r4 : Int) (σ3 : Hp), Mo_ease_post 67 (fx (wr (v3 + 1)).toNat) (fx (wr (v3 + 2)).toNat) σ1 r4 σ3 →
  (r2 = r4 →
    K 1393 [] [.inr (.inr (.inl (1002, 7, L))), .inr (.inr (.inl (0, 0, 8))), .inr (.inr (.inl (67, 0, 9))), .inl v3] σ3) ∧
  (¬ (r2 = r4) →
    (some (.inl 0) : Option AV) = some (.inl 1)) := by
  obtain ⟨d, hl⟩ := hL
  refine ⟨b1, b2, ⟨rfl, hl.xp⟩, fun r2 σ1 g1 => ⟨b1, b2, ⟨rfl, hl.mp g1.1⟩, fun r4 σ3 g2 => ?_⟩⟩
  have ag := agree (S := fun A => s_ease A (fx (wr (v3 + 1)).toNat) (fx (wr (v3 + 2)).toNat)) (d' := d) hl (fun h => uq_ease _ _ _) (fun _ _ h g => w_chg h g) g1 g2.1 (g2.2 d)
  exact ⟨fun _ => hK σ3 ⟨d, ag.2⟩, fun z => absurd ag.1 z⟩
theorem Law_c450 {L : Nat} {fx : Nat → Int} {K : lwKT} {v3 : Int} {σ : Hp} (b1 : 0 ≤ wr (v3 + 1) ∧ wr (v3 + 1) < (L : Int)) (b2 : 0 ≤ wr (v3 + 2) ∧ wr (v3 + 2) < (L : Int)) (b3 : 0 ≤ wr (v3 + 3) ∧ wr (v3 + 3) < (L : Int)) (b4 : 0 ≤ wr (v3 + 4) ∧ wr (v3 + 4) < (L : Int)) (b5 : 0 ≤ wr (v3 + 5) ∧ wr (v3 + 5) < (L : Int)) (hL : ∃ d, LI d σ) (hK : ∀ σ', (∃ d, LI d σ') → K 1393 [] (lwL L v3) σ') :
  (0 ≤ wr (v3 + 1) ∧ wr (v3 + 1) < (L : Int)) ∧
  (0 ≤ wr (v3 + 2) ∧ wr (v3 + 2) < (L : Int)) ∧
  Gh_take_pre 0 (fx (wr (v3 + 1)).toNat) (fx (wr (v3 + 2)).toNat) σ ∧
  ∀ (r2 : Int) (σ1 : Hp), Gh_take_post 0 (fx (wr (v3 + 1)).toNat) (fx (wr (v3 + 2)).toNat) σ r2 σ1 →
  (0 ≤ wr (v3 + 1) ∧ wr (v3 + 1) < (L : Int)) ∧
  (0 ≤ wr (v3 + 2) ∧ wr (v3 + 2) < (L : Int)) ∧
  Mo_take_pre 67 (fx (wr (v3 + 1)).toNat) (fx (wr (v3 + 2)).toNat) σ1 ∧
  ∀ (r4 : Int) (σ3 : Hp), Mo_take_post 67 (fx (wr (v3 + 1)).toNat) (fx (wr (v3 + 2)).toNat) σ1 r4 σ3 →
  (r2 = r4 →
    K 1393 [] [.inr (.inr (.inl (1002, 7, L))), .inr (.inr (.inl (0, 0, 8))), .inr (.inr (.inl (67, 0, 9))), .inl v3] σ3) ∧
  (¬ (r2 = r4) →
    (some (.inl 0) : Option AV) = some (.inl 1)) := by
  obtain ⟨d, hl⟩ := hL
  refine ⟨b1, b2, ⟨rfl, hl.xp⟩, fun r2 σ1 g1 => ⟨b1, b2, ⟨rfl, hl.mp g1.1⟩, fun r4 σ3 g2 => ?_⟩⟩
  have ag := agree (S := fun A => s_take A (fx (wr (v3 + 1)).toNat) (fx (wr (v3 + 2)).toNat)) (d' := d) hl (fun h => uq_take _ _ _) (fun _ _ h g => w_chg h g) g1 g2.1 (g2.2 d)
  exact ⟨fun _ => hK σ3 ⟨d, ag.2⟩, fun z => absurd ag.1 z⟩
theorem Law_c483 {L : Nat} {fx : Nat → Int} {K : lwKT} {v3 : Int} {σ : Hp} (b1 : 0 ≤ wr (v3 + 1) ∧ wr (v3 + 1) < (L : Int)) (b2 : 0 ≤ wr (v3 + 2) ∧ wr (v3 + 2) < (L : Int)) (b3 : 0 ≤ wr (v3 + 3) ∧ wr (v3 + 3) < (L : Int)) (b4 : 0 ≤ wr (v3 + 4) ∧ wr (v3 + 4) < (L : Int)) (b5 : 0 ≤ wr (v3 + 5) ∧ wr (v3 + 5) < (L : Int)) (hL : ∃ d, LI d σ) (hK : ∀ σ', (∃ d, LI d σ') → K 1393 [] (lwL L v3) σ') :
  (0 ≤ wr (v3 + 1) ∧ wr (v3 + 1) < (L : Int)) ∧
  (0 ≤ wr (v3 + 2) ∧ wr (v3 + 2) < (L : Int)) ∧
  Gh_tell_pre 0 (fx (wr (v3 + 1)).toNat) (fx (wr (v3 + 2)).toNat) σ ∧
  ∀ (r2 : Int) (σ1 : Hp), Gh_tell_post 0 (fx (wr (v3 + 1)).toNat) (fx (wr (v3 + 2)).toNat) σ r2 σ1 →
  (0 ≤ wr (v3 + 1) ∧ wr (v3 + 1) < (L : Int)) ∧
  (0 ≤ wr (v3 + 2) ∧ wr (v3 + 2) < (L : Int)) ∧
  Mo_tell_pre 67 (fx (wr (v3 + 1)).toNat) (fx (wr (v3 + 2)).toNat) σ1 ∧
  ∀ (r4 : Int) (σ3 : Hp), Mo_tell_post 67 (fx (wr (v3 + 1)).toNat) (fx (wr (v3 + 2)).toNat) σ1 r4 σ3 →
  (r2 = r4 →
    K 1393 [] [.inr (.inr (.inl (1002, 7, L))), .inr (.inr (.inl (0, 0, 8))), .inr (.inr (.inl (67, 0, 9))), .inl v3] σ3) ∧
  (¬ (r2 = r4) →
    (some (.inl 0) : Option AV) = some (.inl 1)) := by
  obtain ⟨d, hl⟩ := hL
  refine ⟨b1, b2, ⟨rfl, hl.xp⟩, fun r2 σ1 g1 => ⟨b1, b2, ⟨rfl, hl.mp g1.1⟩, fun r4 σ3 g2 => ?_⟩⟩
  have ag := agree (S := fun A => s_tell A (fx (wr (v3 + 1)).toNat) (fx (wr (v3 + 2)).toNat)) (d' := d) hl (fun h => uq_tell _ _ _) (fun _ _ h g => w_tell h g) g1 g2.1 (g2.2 d)
  exact ⟨fun _ => hK σ3 ⟨d, ag.2⟩, fun z => absurd ag.1 z⟩
theorem Law_c516 {L : Nat} {fx : Nat → Int} {K : lwKT} {v3 : Int} {σ : Hp} (b1 : 0 ≤ wr (v3 + 1) ∧ wr (v3 + 1) < (L : Int)) (b2 : 0 ≤ wr (v3 + 2) ∧ wr (v3 + 2) < (L : Int)) (b3 : 0 ≤ wr (v3 + 3) ∧ wr (v3 + 3) < (L : Int)) (b4 : 0 ≤ wr (v3 + 4) ∧ wr (v3 + 4) < (L : Int)) (b5 : 0 ≤ wr (v3 + 5) ∧ wr (v3 + 5) < (L : Int)) (hL : ∃ d, LI d σ) (hK : ∀ σ', (∃ d, LI d σ') → K 1393 [] (lwL L v3) σ') :
  (0 ≤ wr (v3 + 1) ∧ wr (v3 + 1) < (L : Int)) ∧
  (0 ≤ wr (v3 + 2) ∧ wr (v3 + 2) < (L : Int)) ∧
  Gh_forget_pre 0 (fx (wr (v3 + 1)).toNat) (fx (wr (v3 + 2)).toNat) σ ∧
  ∀ (r2 : Int) (σ1 : Hp), Gh_forget_post 0 (fx (wr (v3 + 1)).toNat) (fx (wr (v3 + 2)).toNat) σ r2 σ1 →
  (0 ≤ wr (v3 + 1) ∧ wr (v3 + 1) < (L : Int)) ∧
  (0 ≤ wr (v3 + 2) ∧ wr (v3 + 2) < (L : Int)) ∧
  Mo_forget_pre 67 (fx (wr (v3 + 1)).toNat) (fx (wr (v3 + 2)).toNat) σ1 ∧
  ∀ (r4 : Int) (σ3 : Hp), Mo_forget_post 67 (fx (wr (v3 + 1)).toNat) (fx (wr (v3 + 2)).toNat) σ1 r4 σ3 →
  (r2 = r4 →
    K 1393 [] [.inr (.inr (.inl (1002, 7, L))), .inr (.inr (.inl (0, 0, 8))), .inr (.inr (.inl (67, 0, 9))), .inl v3] σ3) ∧
  (¬ (r2 = r4) →
    (some (.inl 0) : Option AV) = some (.inl 1)) := by
  obtain ⟨d, hl⟩ := hL
  refine ⟨b1, b2, ⟨rfl, hl.xp⟩, fun r2 σ1 g1 => ⟨b1, b2, ⟨rfl, hl.mp g1.1⟩, fun r4 σ3 g2 => ?_⟩⟩
  have ag := agree (S := fun A => s_forget A (fx (wr (v3 + 1)).toNat) (fx (wr (v3 + 2)).toNat)) (d' := d) hl (fun h => uq_forget _ _ _) (fun _ _ h g => w_forget h g) g1 g2.1 (g2.2 d)
  exact ⟨fun _ => hK σ3 ⟨d, ag.2⟩, fun z => absurd ag.1 z⟩
theorem Law_c549 {L : Nat} {fx : Nat → Int} {K : lwKT} {v3 : Int} {σ : Hp} (b1 : 0 ≤ wr (v3 + 1) ∧ wr (v3 + 1) < (L : Int)) (b2 : 0 ≤ wr (v3 + 2) ∧ wr (v3 + 2) < (L : Int)) (b3 : 0 ≤ wr (v3 + 3) ∧ wr (v3 + 3) < (L : Int)) (b4 : 0 ≤ wr (v3 + 4) ∧ wr (v3 + 4) < (L : Int)) (b5 : 0 ≤ wr (v3 + 5) ∧ wr (v3 + 5) < (L : Int)) (hL : ∃ d, LI d σ) (hK : ∀ σ', (∃ d, LI d σ') → K 1393 [] (lwL L v3) σ') :
  Gh_pluck_pre 0 σ ∧
  ∀ (r2 : Int) (σ1 : Hp), Gh_pluck_post 0 σ r2 σ1 →
  Mo_pluck_pre 67 σ1 ∧
  ∀ (r4 : Int) (σ3 : Hp), Mo_pluck_post 67 σ1 r4 σ3 →
  (r2 = r4 →
    K 1393 [] [.inr (.inr (.inl (1002, 7, L))), .inr (.inr (.inl (0, 0, 8))), .inr (.inr (.inl (67, 0, 9))), .inl v3] σ3) ∧
  (¬ (r2 = r4) →
    (some (.inl 0) : Option AV) = some (.inl 1)) := by
  obtain ⟨d, hl⟩ := hL
  refine ⟨⟨rfl, hl.xp⟩, fun r2 σ1 g1 => ⟨⟨rfl, hl.mp g1.1⟩, fun r4 σ3 g2 => ?_⟩⟩
  have ag := agree (S := fun A => s_pluck A) (d' := d) hl (fun h => uq_pluck _) (fun _ _ h g => w_pluck h g) g1 g2.1 (g2.2 d)
  exact ⟨fun _ => hK σ3 ⟨d, ag.2⟩, fun z => absurd ag.1 z⟩
theorem Law_c562 {L : Nat} {fx : Nat → Int} {K : lwKT} {v3 : Int} {σ : Hp} (b1 : 0 ≤ wr (v3 + 1) ∧ wr (v3 + 1) < (L : Int)) (b2 : 0 ≤ wr (v3 + 2) ∧ wr (v3 + 2) < (L : Int)) (b3 : 0 ≤ wr (v3 + 3) ∧ wr (v3 + 3) < (L : Int)) (b4 : 0 ≤ wr (v3 + 4) ∧ wr (v3 + 4) < (L : Int)) (b5 : 0 ≤ wr (v3 + 5) ∧ wr (v3 + 5) < (L : Int)) (hL : ∃ d, LI d σ) (hK : ∀ σ', (∃ d, LI d σ') → K 1393 [] (lwL L v3) σ') :
  Gh_dye_pre 0 σ ∧
  ∀ (r2 : Int) (σ1 : Hp), Gh_dye_post 0 σ r2 σ1 →
  Mo_dye_pre 67 σ1 ∧
  ∀ (r4 : Int) (σ3 : Hp), Mo_dye_post 67 σ1 r4 σ3 →
  (r2 = r4 →
    K 1393 [] [.inr (.inr (.inl (1002, 7, L))), .inr (.inr (.inl (0, 0, 8))), .inr (.inr (.inl (67, 0, 9))), .inl v3] σ3) ∧
  (¬ (r2 = r4) →
    (some (.inl 0) : Option AV) = some (.inl 1)) := by
  obtain ⟨d, hl⟩ := hL
  refine ⟨⟨rfl, hl.xp⟩, fun r2 σ1 g1 => ⟨⟨rfl, hl.mp g1.1⟩, fun r4 σ3 g2 => ?_⟩⟩
  have ag := agree (S := fun A => s_dye A) (d' := d) hl (fun h => uq_dye _) (fun _ _ h g => w_dye h g) g1 g2.1 (g2.2 d)
  exact ⟨fun _ => hK σ3 ⟨d, ag.2⟩, fun z => absurd ag.1 z⟩
theorem Law_c575 {L : Nat} {fx : Nat → Int} {K : lwKT} {v3 : Int} {σ : Hp} (b1 : 0 ≤ wr (v3 + 1) ∧ wr (v3 + 1) < (L : Int)) (b2 : 0 ≤ wr (v3 + 2) ∧ wr (v3 + 2) < (L : Int)) (b3 : 0 ≤ wr (v3 + 3) ∧ wr (v3 + 3) < (L : Int)) (b4 : 0 ≤ wr (v3 + 4) ∧ wr (v3 + 4) < (L : Int)) (b5 : 0 ≤ wr (v3 + 5) ∧ wr (v3 + 5) < (L : Int)) (hL : ∃ d, LI d σ) (hK : ∀ σ', (∃ d, LI d σ') → K 1393 [] (lwL L v3) σ') :
  Gh_undo_pre 0 σ ∧
  ∀ (r2 : Int) (σ1 : Hp), Gh_undo_post 0 σ r2 σ1 →
  Mo_undo_pre 67 σ1 ∧
  ∀ (r4 : Int) (σ3 : Hp), Mo_undo_post 67 σ1 r4 σ3 →
  (r2 = r4 →
    K 1393 [] [.inr (.inr (.inl (1002, 7, L))), .inr (.inr (.inl (0, 0, 8))), .inr (.inr (.inl (67, 0, 9))), .inl v3] σ3) ∧
  (¬ (r2 = r4) →
    (some (.inl 0) : Option AV) = some (.inl 1)) := by
  obtain ⟨d, hl⟩ := hL
  refine ⟨⟨rfl, hl.xp⟩, fun r2 σ1 g1 => ⟨⟨rfl, hl.mp g1.1⟩, fun r4 σ3 g2 => ?_⟩⟩
  have ag := agree (S := fun A => s_undo A) (d' := d) hl (fun h => uq_undo _) (fun _ _ h g => w_undo h g) g1 g2.1 (g2.2 d)
  exact ⟨fun _ => hK σ3 ⟨d, ag.2⟩, fun z => absurd ag.1 z⟩
theorem Law_c588 {L : Nat} {fx : Nat → Int} {K : lwKT} {v3 : Int} {σ : Hp} (b1 : 0 ≤ wr (v3 + 1) ∧ wr (v3 + 1) < (L : Int)) (b2 : 0 ≤ wr (v3 + 2) ∧ wr (v3 + 2) < (L : Int)) (b3 : 0 ≤ wr (v3 + 3) ∧ wr (v3 + 3) < (L : Int)) (b4 : 0 ≤ wr (v3 + 4) ∧ wr (v3 + 4) < (L : Int)) (b5 : 0 ≤ wr (v3 + 5) ∧ wr (v3 + 5) < (L : Int)) (hL : ∃ d, LI d σ) (hK : ∀ σ', (∃ d, LI d σ') → K 1393 [] (lwL L v3) σ') :
  Gh_redo_pre 0 σ ∧
  ∀ (r2 : Int) (σ1 : Hp), Gh_redo_post 0 σ r2 σ1 →
  Mo_redo_pre 67 σ1 ∧
  ∀ (r4 : Int) (σ3 : Hp), Mo_redo_post 67 σ1 r4 σ3 →
  (r2 = r4 →
    K 1393 [] [.inr (.inr (.inl (1002, 7, L))), .inr (.inr (.inl (0, 0, 8))), .inr (.inr (.inl (67, 0, 9))), .inl v3] σ3) ∧
  (¬ (r2 = r4) →
    (some (.inl 0) : Option AV) = some (.inl 1)) := by
  obtain ⟨d, hl⟩ := hL
  refine ⟨⟨rfl, hl.xp⟩, fun r2 σ1 g1 => ⟨⟨rfl, hl.mp g1.1⟩, fun r4 σ3 g2 => ?_⟩⟩
  have ag := agree (S := fun A => s_redo A) (d' := d) hl (fun h => uq_redo _) (fun _ _ h g => w_redo h g) g1 g2.1 (g2.2 d)
  exact ⟨fun _ => hK σ3 ⟨d, ag.2⟩, fun z => absurd ag.1 z⟩
theorem Law_c601 {L : Nat} {fx : Nat → Int} {K : lwKT} {v3 : Int} {σ : Hp} (b1 : 0 ≤ wr (v3 + 1) ∧ wr (v3 + 1) < (L : Int)) (b2 : 0 ≤ wr (v3 + 2) ∧ wr (v3 + 2) < (L : Int)) (b3 : 0 ≤ wr (v3 + 3) ∧ wr (v3 + 3) < (L : Int)) (b4 : 0 ≤ wr (v3 + 4) ∧ wr (v3 + 4) < (L : Int)) (b5 : 0 ≤ wr (v3 + 5) ∧ wr (v3 + 5) < (L : Int)) (hL : ∃ d, LI d σ) (hK : ∀ σ', (∃ d, LI d σ') → K 1393 [] (lwL L v3) σ') :
  (0 ≤ wr (v3 + 1) ∧ wr (v3 + 1) < (L : Int)) ∧
  Gh_will_pre 0 (fx (wr (v3 + 1)).toNat) σ ∧
  ∀ (r2 : Int) (σ1 : Hp), Gh_will_post 0 (fx (wr (v3 + 1)).toNat) σ r2 σ1 →
  (0 ≤ wr (v3 + 1) ∧ wr (v3 + 1) < (L : Int)) ∧
  Mo_will_pre 67 (fx (wr (v3 + 1)).toNat) σ1 ∧
  ∀ (r4 : Int) (σ3 : Hp), Mo_will_post 67 (fx (wr (v3 + 1)).toNat) σ1 r4 σ3 →
  (r2 = r4 →
    K 1393 [] [.inr (.inr (.inl (1002, 7, L))), .inr (.inr (.inl (0, 0, 8))), .inr (.inr (.inl (67, 0, 9))), .inl v3] σ3) ∧
  (¬ (r2 = r4) →
    (some (.inl 0) : Option AV) = some (.inl 1)) := by
  obtain ⟨d, hl⟩ := hL
  refine ⟨b1, ⟨rfl, hl.xp⟩, fun r2 σ1 g1 => ⟨b1, ⟨rfl, hl.mp g1.1⟩, fun r4 σ3 g2 => ?_⟩⟩
  have ag := agree (S := fun A => s_will A (fx (wr (v3 + 1)).toNat)) (d' := d) hl (fun h => uq_will _ _) (fun _ _ h g => w_Ob h g) g1 g2.1 (g2.2 d)
  exact ⟨fun _ => hK σ3 ⟨d, ag.2⟩, fun z => absurd ag.1 z⟩
theorem Law_c624 {L : Nat} {fx : Nat → Int} {K : lwKT} {v3 : Int} {σ : Hp} (b1 : 0 ≤ wr (v3 + 1) ∧ wr (v3 + 1) < (L : Int)) (b2 : 0 ≤ wr (v3 + 2) ∧ wr (v3 + 2) < (L : Int)) (b3 : 0 ≤ wr (v3 + 3) ∧ wr (v3 + 3) < (L : Int)) (b4 : 0 ≤ wr (v3 + 4) ∧ wr (v3 + 4) < (L : Int)) (b5 : 0 ≤ wr (v3 + 5) ∧ wr (v3 + 5) < (L : Int)) (hL : ∃ d, LI d σ) (hK : ∀ σ', (∃ d, LI d σ') → K 1393 [] (lwL L v3) σ') :
  (0 ≤ wr (v3 + 1) ∧ wr (v3 + 1) < (L : Int)) ∧
  (0 ≤ wr (v3 + 2) ∧ wr (v3 + 2) < (L : Int)) ∧
  Gh_cares_pre 0 (fx (wr (v3 + 1)).toNat) (fx (wr (v3 + 2)).toNat) σ ∧
  ∀ (r2 : Int) (σ1 : Hp), Gh_cares_post 0 (fx (wr (v3 + 1)).toNat) (fx (wr (v3 + 2)).toNat) σ r2 σ1 →
  (0 ≤ wr (v3 + 1) ∧ wr (v3 + 1) < (L : Int)) ∧
  (0 ≤ wr (v3 + 2) ∧ wr (v3 + 2) < (L : Int)) ∧
  Mo_cares_pre 67 (fx (wr (v3 + 1)).toNat) (fx (wr (v3 + 2)).toNat) σ1 ∧
  ∀ (r4 : Int) (σ3 : Hp), Mo_cares_post 67 (fx (wr (v3 + 1)).toNat) (fx (wr (v3 + 2)).toNat) σ1 r4 σ3 →
  (r2 = r4 →
    K 1393 [] [.inr (.inr (.inl (1002, 7, L))), .inr (.inr (.inl (0, 0, 8))), .inr (.inr (.inl (67, 0, 9))), .inl v3] σ3) ∧
  (¬ (r2 = r4) →
    (some (.inl 0) : Option AV) = some (.inl 1)) := by
  obtain ⟨d, hl⟩ := hL
  refine ⟨b1, b2, ⟨rfl, hl.xp⟩, fun r2 σ1 g1 => ⟨b1, b2, ⟨rfl, hl.mp g1.1⟩, fun r4 σ3 g2 => ?_⟩⟩
  have ag := agree (S := fun A => s_cares A (fx (wr (v3 + 1)).toNat) (fx (wr (v3 + 2)).toNat)) (d' := d) hl (fun h => uq_cares _ _ _) (fun _ _ h g => w_Ob h g) g1 g2.1 (g2.2 d)
  exact ⟨fun _ => hK σ3 ⟨d, ag.2⟩, fun z => absurd ag.1 z⟩
theorem Law_c657 {L : Nat} {fx : Nat → Int} {K : lwKT} {v3 : Int} {σ : Hp} (b1 : 0 ≤ wr (v3 + 1) ∧ wr (v3 + 1) < (L : Int)) (b2 : 0 ≤ wr (v3 + 2) ∧ wr (v3 + 2) < (L : Int)) (b3 : 0 ≤ wr (v3 + 3) ∧ wr (v3 + 3) < (L : Int)) (b4 : 0 ≤ wr (v3 + 4) ∧ wr (v3 + 4) < (L : Int)) (b5 : 0 ≤ wr (v3 + 5) ∧ wr (v3 + 5) < (L : Int)) (hL : ∃ d, LI d σ) (hK : ∀ σ', (∃ d, LI d σ') → K 1393 [] (lwL L v3) σ') :
  Gh_next_pre 0 σ ∧
  ∀ (r2 : Int) (σ1 : Hp), Gh_next_post 0 σ r2 σ1 →
  Mo_next_pre 67 σ1 ∧
  ∀ (r4 : Int) (σ3 : Hp), Mo_next_post 67 σ1 r4 σ3 →
  (r2 = r4 →
    K 1393 [] [.inr (.inr (.inl (1002, 7, L))), .inr (.inr (.inl (0, 0, 8))), .inr (.inr (.inl (67, 0, 9))), .inl v3] σ3) ∧
  (¬ (r2 = r4) →
    (some (.inl 0) : Option AV) = some (.inl 1)) := by
  obtain ⟨d, hl⟩ := hL
  refine ⟨⟨rfl, hl.xp⟩, fun r2 σ1 g1 => ⟨⟨rfl, hl.mp g1.1⟩, fun r4 σ3 g2 => ?_⟩⟩
  have ag := agree (S := fun A => s_next A) (d' := d) hl (fun h => uq_next _) (fun _ _ h g => w_Ob h g) g1 g2.1.1 (g2.1.2 d)
  exact ⟨fun _ => hK σ3 ⟨d, ag.2⟩, fun z => absurd ag.1 z⟩
theorem Law_c670 {L : Nat} {fx : Nat → Int} {K : lwKT} {v3 : Int} {σ : Hp} (b1 : 0 ≤ wr (v3 + 1) ∧ wr (v3 + 1) < (L : Int)) (b2 : 0 ≤ wr (v3 + 2) ∧ wr (v3 + 2) < (L : Int)) (b3 : 0 ≤ wr (v3 + 3) ∧ wr (v3 + 3) < (L : Int)) (b4 : 0 ≤ wr (v3 + 4) ∧ wr (v3 + 4) < (L : Int)) (b5 : 0 ≤ wr (v3 + 5) ∧ wr (v3 + 5) < (L : Int)) (hL : ∃ d, LI d σ) (hK : ∀ σ', (∃ d, LI d σ') → K 1393 [] (lwL L v3) σ') :
  (0 ≤ wr (v3 + 1) ∧ wr (v3 + 1) < (L : Int)) ∧
  (0 ≤ wr (v3 + 2) ∧ wr (v3 + 2) < (L : Int)) ∧
  (0 ≤ wr (v3 + 3) ∧ wr (v3 + 3) < (L : Int)) ∧
  Gh_spare_pre 0 (fx (wr (v3 + 1)).toNat) (fx (wr (v3 + 2)).toNat) (fx (wr (v3 + 3)).toNat) σ ∧
  ∀ (r2 : Int) (σ1 : Hp), Gh_spare_post 0 (fx (wr (v3 + 1)).toNat) (fx (wr (v3 + 2)).toNat) (fx (wr (v3 + 3)).toNat) σ r2 σ1 →
  (0 ≤ wr (v3 + 1) ∧ wr (v3 + 1) < (L : Int)) ∧
  (0 ≤ wr (v3 + 2) ∧ wr (v3 + 2) < (L : Int)) ∧
  (0 ≤ wr (v3 + 3) ∧ wr (v3 + 3) < (L : Int)) ∧
  Mo_spare_pre 67 (fx (wr (v3 + 1)).toNat) (fx (wr (v3 + 2)).toNat) (fx (wr (v3 + 3)).toNat) σ1 ∧
  ∀ (r4 : Int) (σ3 : Hp), Mo_spare_post 67 (fx (wr (v3 + 1)).toNat) (fx (wr (v3 + 2)).toNat) (fx (wr (v3 + 3)).toNat) σ1 r4 σ3 →
  (r2 = r4 →
    K 1393 [] [.inr (.inr (.inl (1002, 7, L))), .inr (.inr (.inl (0, 0, 8))), .inr (.inr (.inl (67, 0, 9))), .inl v3] σ3) ∧
  (¬ (r2 = r4) →
    (some (.inl 0) : Option AV) = some (.inl 1)) := by
  obtain ⟨d, hl⟩ := hL
  refine ⟨b1, b2, b3, ⟨rfl, hl.xp⟩, fun r2 σ1 g1 => ⟨b1, b2, b3, ⟨rfl, hl.mp g1.1⟩, fun r4 σ3 g2 => ?_⟩⟩
  have ag := agree (S := fun A => s_spare A (fx (wr (v3 + 1)).toNat) (fx (wr (v3 + 2)).toNat) (fx (wr (v3 + 3)).toNat)) (d' := d) hl (fun h => uq_spare _ _ _ _) (fun _ _ h g => w_Ob h g) g1 g2.1 (g2.2 d)
  exact ⟨fun _ => hK σ3 ⟨d, ag.2⟩, fun z => absurd ag.1 z⟩
theorem Law_c713 {L : Nat} {fx : Nat → Int} {K : lwKT} {v3 : Int} {σ : Hp} (b1 : 0 ≤ wr (v3 + 1) ∧ wr (v3 + 1) < (L : Int)) (b2 : 0 ≤ wr (v3 + 2) ∧ wr (v3 + 2) < (L : Int)) (b3 : 0 ≤ wr (v3 + 3) ∧ wr (v3 + 3) < (L : Int)) (b4 : 0 ≤ wr (v3 + 4) ∧ wr (v3 + 4) < (L : Int)) (b5 : 0 ≤ wr (v3 + 5) ∧ wr (v3 + 5) < (L : Int)) (hL : ∃ d, LI d σ) (hK : ∀ σ', (∃ d, LI d σ') → K 1393 [] (lwL L v3) σ') :
  (0 ≤ wr (v3 + 1) ∧ wr (v3 + 1) < (L : Int)) ∧
  Gh_easing_pre 0 (fx (wr (v3 + 1)).toNat) σ ∧
  ∀ (r2 : Int) (σ1 : Hp), Gh_easing_post 0 (fx (wr (v3 + 1)).toNat) σ r2 σ1 →
  (0 ≤ wr (v3 + 1) ∧ wr (v3 + 1) < (L : Int)) ∧
  Mo_easing_pre 67 (fx (wr (v3 + 1)).toNat) σ1 ∧
  ∀ (r4 : Int) (σ3 : Hp), Mo_easing_post 67 (fx (wr (v3 + 1)).toNat) σ1 r4 σ3 →
  (r2 = r4 →
    K 1393 [] [.inr (.inr (.inl (1002, 7, L))), .inr (.inr (.inl (0, 0, 8))), .inr (.inr (.inl (67, 0, 9))), .inl v3] σ3) ∧
  (¬ (r2 = r4) →
    (some (.inl 0) : Option AV) = some (.inl 1)) := by
  obtain ⟨d, hl⟩ := hL
  refine ⟨b1, ⟨rfl, hl.xp⟩, fun r2 σ1 g1 => ⟨b1, ⟨rfl, hl.mp g1.1⟩, fun r4 σ3 g2 => ?_⟩⟩
  have ag := agree (S := fun A => s_easing A (fx (wr (v3 + 1)).toNat)) (d' := d) hl (fun h => uq_easing _ _) (fun _ _ h g => w_Ob h g) g1 g2.1 (g2.2 d)
  exact ⟨fun _ => hK σ3 ⟨d, ag.2⟩, fun z => absurd ag.1 z⟩
theorem Law_c736 {L : Nat} {fx : Nat → Int} {K : lwKT} {v3 : Int} {σ : Hp} (b1 : 0 ≤ wr (v3 + 1) ∧ wr (v3 + 1) < (L : Int)) (b2 : 0 ≤ wr (v3 + 2) ∧ wr (v3 + 2) < (L : Int)) (b3 : 0 ≤ wr (v3 + 3) ∧ wr (v3 + 3) < (L : Int)) (b4 : 0 ≤ wr (v3 + 4) ∧ wr (v3 + 4) < (L : Int)) (b5 : 0 ≤ wr (v3 + 5) ∧ wr (v3 + 5) < (L : Int)) (hL : ∃ d, LI d σ) (hK : ∀ σ', (∃ d, LI d σ') → K 1393 [] (lwL L v3) σ') :
  (0 ≤ wr (v3 + 1) ∧ wr (v3 + 1) < (L : Int)) ∧
  Gh_hush_pre 0 (fx (wr (v3 + 1)).toNat) σ ∧
  ∀ (r2 : Int) (σ1 : Hp), Gh_hush_post 0 (fx (wr (v3 + 1)).toNat) σ r2 σ1 →
  (0 ≤ wr (v3 + 1) ∧ wr (v3 + 1) < (L : Int)) ∧
  Mo_hush_pre 67 (fx (wr (v3 + 1)).toNat) σ1 ∧
  ∀ (r4 : Int) (σ3 : Hp), Mo_hush_post 67 (fx (wr (v3 + 1)).toNat) σ1 r4 σ3 →
  (r2 = r4 →
    K 1393 [] [.inr (.inr (.inl (1002, 7, L))), .inr (.inr (.inl (0, 0, 8))), .inr (.inr (.inl (67, 0, 9))), .inl v3] σ3) ∧
  (¬ (r2 = r4) →
    (some (.inl 0) : Option AV) = some (.inl 1)) := by
  obtain ⟨d, hl⟩ := hL
  refine ⟨b1, ⟨rfl, hl.xp⟩, fun r2 σ1 g1 => ⟨b1, ⟨rfl, hl.mp g1.1⟩, fun r4 σ3 g2 => ?_⟩⟩
  have ag := agree (S := fun A => s_hush A (fx (wr (v3 + 1)).toNat)) (d' := d) hl (fun h => uq_hush _ _) (fun _ _ h g => w_Ob h g) g1 g2.1 (g2.2 d)
  exact ⟨fun _ => hK σ3 ⟨d, ag.2⟩, fun z => absurd ag.1 z⟩
theorem Law_c759 {L : Nat} {fx : Nat → Int} {K : lwKT} {v3 : Int} {σ : Hp} (b1 : 0 ≤ wr (v3 + 1) ∧ wr (v3 + 1) < (L : Int)) (b2 : 0 ≤ wr (v3 + 2) ∧ wr (v3 + 2) < (L : Int)) (b3 : 0 ≤ wr (v3 + 3) ∧ wr (v3 + 3) < (L : Int)) (b4 : 0 ≤ wr (v3 + 4) ∧ wr (v3 + 4) < (L : Int)) (b5 : 0 ≤ wr (v3 + 5) ∧ wr (v3 + 5) < (L : Int)) (hL : ∃ d, LI d σ) (hK : ∀ σ', (∃ d, LI d σ') → K 1393 [] (lwL L v3) σ') :
  (0 ≤ wr (v3 + 1) ∧ wr (v3 + 1) < (L : Int)) ∧
  (0 ≤ wr (v3 + 2) ∧ wr (v3 + 2) < (L : Int)) ∧
  Gh_knows_pre 0 (fx (wr (v3 + 1)).toNat) (fx (wr (v3 + 2)).toNat) σ ∧
  ∀ (r2 : Int) (σ1 : Hp), Gh_knows_post 0 (fx (wr (v3 + 1)).toNat) (fx (wr (v3 + 2)).toNat) σ r2 σ1 →
  (0 ≤ wr (v3 + 1) ∧ wr (v3 + 1) < (L : Int)) ∧
  (0 ≤ wr (v3 + 2) ∧ wr (v3 + 2) < (L : Int)) ∧
  Mo_knows_pre 67 (fx (wr (v3 + 1)).toNat) (fx (wr (v3 + 2)).toNat) σ1 ∧
  ∀ (r4 : Int) (σ3 : Hp), Mo_knows_post 67 (fx (wr (v3 + 1)).toNat) (fx (wr (v3 + 2)).toNat) σ1 r4 σ3 →
  (r2 = r4 →
    K 1393 [] [.inr (.inr (.inl (1002, 7, L))), .inr (.inr (.inl (0, 0, 8))), .inr (.inr (.inl (67, 0, 9))), .inl v3] σ3) ∧
  (¬ (r2 = r4) →
    (some (.inl 0) : Option AV) = some (.inl 1)) := by
  obtain ⟨d, hl⟩ := hL
  refine ⟨b1, b2, ⟨rfl, hl.xp⟩, fun r2 σ1 g1 => ⟨b1, b2, ⟨rfl, hl.mp g1.1⟩, fun r4 σ3 g2 => ?_⟩⟩
  have ag := agree (S := fun A => s_knows A (fx (wr (v3 + 1)).toNat) (fx (wr (v3 + 2)).toNat)) (d' := d) hl (fun h => uq_knows _ _ _) (fun _ _ h g => w_Ob h g) g1 g2.1 (g2.2 d)
  exact ⟨fun _ => hK σ3 ⟨d, ag.2⟩, fun z => absurd ag.1 z⟩
theorem Law_c792 {L : Nat} {fx : Nat → Int} {K : lwKT} {v3 : Int} {σ : Hp} (b1 : 0 ≤ wr (v3 + 1) ∧ wr (v3 + 1) < (L : Int)) (b2 : 0 ≤ wr (v3 + 2) ∧ wr (v3 + 2) < (L : Int)) (b3 : 0 ≤ wr (v3 + 3) ∧ wr (v3 + 3) < (L : Int)) (b4 : 0 ≤ wr (v3 + 4) ∧ wr (v3 + 4) < (L : Int)) (b5 : 0 ≤ wr (v3 + 5) ∧ wr (v3 + 5) < (L : Int)) (hL : ∃ d, LI d σ) (hK : ∀ σ', (∃ d, LI d σ') → K 1393 [] (lwL L v3) σ') :
  Gh_wed_pre 0 σ ∧
  ∀ (r2 : Int) (σ1 : Hp), Gh_wed_post 0 σ r2 σ1 →
  Mo_wed_pre 67 σ1 ∧
  ∀ (r4 : Int) (σ3 : Hp), Mo_wed_post 67 σ1 r4 σ3 →
  (r2 = r4 →
    K 1393 [] [.inr (.inr (.inl (1002, 7, L))), .inr (.inr (.inl (0, 0, 8))), .inr (.inr (.inl (67, 0, 9))), .inl v3] σ3) ∧
  (¬ (r2 = r4) →
    (some (.inl 0) : Option AV) = some (.inl 1)) := by
  obtain ⟨d, hl⟩ := hL
  refine ⟨⟨rfl, hl.xp⟩, fun r2 σ1 g1 => ⟨⟨rfl, hl.mp g1.1⟩, fun r4 σ3 g2 => ?_⟩⟩
  have ag := agree (S := fun A => s_wed A) (d' := d) hl (fun h => uq_wed _ h.2.1.1) (fun _ _ h g => w_wed h g) g1 g2.1 (g2.2 d)
  exact ⟨fun _ => hK σ3 ⟨d, ag.2⟩, fun z => absurd ag.1 z⟩
theorem Law_c805 {L : Nat} {fx : Nat → Int} {K : lwKT} {v3 : Int} {σ : Hp} (b1 : 0 ≤ wr (v3 + 1) ∧ wr (v3 + 1) < (L : Int)) (b2 : 0 ≤ wr (v3 + 2) ∧ wr (v3 + 2) < (L : Int)) (b3 : 0 ≤ wr (v3 + 3) ∧ wr (v3 + 3) < (L : Int)) (b4 : 0 ≤ wr (v3 + 4) ∧ wr (v3 + 4) < (L : Int)) (b5 : 0 ≤ wr (v3 + 5) ∧ wr (v3 + 5) < (L : Int)) (hL : ∃ d, LI d σ) (hK : ∀ σ', (∃ d, LI d σ') → K 1393 [] (lwL L v3) σ') :
  (0 ≤ wr (v3 + 1) ∧ wr (v3 + 1) < (L : Int)) ∧
  (0 ≤ wr (v3 + 2) ∧ wr (v3 + 2) < (L : Int)) ∧
  Gh_nights_pre 0 (fx (wr (v3 + 1)).toNat) (fx (wr (v3 + 2)).toNat) σ ∧
  ∀ (r2 : Int) (σ1 : Hp), Gh_nights_post 0 (fx (wr (v3 + 1)).toNat) (fx (wr (v3 + 2)).toNat) σ r2 σ1 →
  (0 ≤ wr (v3 + 1) ∧ wr (v3 + 1) < (L : Int)) ∧
  (0 ≤ wr (v3 + 2) ∧ wr (v3 + 2) < (L : Int)) ∧
  Mo_nights_pre 67 (fx (wr (v3 + 1)).toNat) (fx (wr (v3 + 2)).toNat) σ1 ∧
  ∀ (r4 : Int) (σ3 : Hp), Mo_nights_post 67 (fx (wr (v3 + 1)).toNat) (fx (wr (v3 + 2)).toNat) σ1 r4 σ3 →
  (r2 = r4 →
    K 1393 [] [.inr (.inr (.inl (1002, 7, L))), .inr (.inr (.inl (0, 0, 8))), .inr (.inr (.inl (67, 0, 9))), .inl v3] σ3) ∧
  (¬ (r2 = r4) →
    (some (.inl 0) : Option AV) = some (.inl 1)) := by
  obtain ⟨d, hl⟩ := hL
  refine ⟨b1, b2, ⟨rfl, hl.xp⟩, fun r2 σ1 g1 => ⟨b1, b2, ⟨rfl, hl.mp g1.1⟩, fun r4 σ3 g2 => ?_⟩⟩
  have ag := agree (S := fun A => s_nights A (fx (wr (v3 + 1)).toNat) (fx (wr (v3 + 2)).toNat)) (d' := d) hl (fun h => uq_nights _ _ _) (fun _ _ h g => w_Ob h g) g1 g2.1 (g2.2 d)
  exact ⟨fun _ => hK σ3 ⟨d, ag.2⟩, fun z => absurd ag.1 z⟩
theorem Law_c838 {L : Nat} {fx : Nat → Int} {K : lwKT} {v3 : Int} {σ : Hp} (b1 : 0 ≤ wr (v3 + 1) ∧ wr (v3 + 1) < (L : Int)) (b2 : 0 ≤ wr (v3 + 2) ∧ wr (v3 + 2) < (L : Int)) (b3 : 0 ≤ wr (v3 + 3) ∧ wr (v3 + 3) < (L : Int)) (b4 : 0 ≤ wr (v3 + 4) ∧ wr (v3 + 4) < (L : Int)) (b5 : 0 ≤ wr (v3 + 5) ∧ wr (v3 + 5) < (L : Int)) (hL : ∃ d, LI d σ) (hK : ∀ σ', (∃ d, LI d σ') → K 1393 [] (lwL L v3) σ') :
  (0 ≤ wr (v3 + 1) ∧ wr (v3 + 1) < (L : Int)) ∧
  Gh_returns_pre 0 (fx (wr (v3 + 1)).toNat) σ ∧
  ∀ (r2 : Int) (σ1 : Hp), Gh_returns_post 0 (fx (wr (v3 + 1)).toNat) σ r2 σ1 →
  (0 ≤ wr (v3 + 1) ∧ wr (v3 + 1) < (L : Int)) ∧
  Mo_returns_pre 67 (fx (wr (v3 + 1)).toNat) σ1 ∧
  ∀ (r4 : Int) (σ3 : Hp), Mo_returns_post 67 (fx (wr (v3 + 1)).toNat) σ1 r4 σ3 →
  (r2 = r4 →
    K 1393 [] [.inr (.inr (.inl (1002, 7, L))), .inr (.inr (.inl (0, 0, 8))), .inr (.inr (.inl (67, 0, 9))), .inl v3] σ3) ∧
  (¬ (r2 = r4) →
    (some (.inl 0) : Option AV) = some (.inl 1)) := by
  obtain ⟨d, hl⟩ := hL
  refine ⟨b1, ⟨rfl, hl.xp⟩, fun r2 σ1 g1 => ⟨b1, ⟨rfl, hl.mp g1.1⟩, fun r4 σ3 g2 => ?_⟩⟩
  have ag := agree (S := fun A => s_returns A (fx (wr (v3 + 1)).toNat)) (d' := d) hl (fun h => uq_returns _ _) (fun _ _ h g => w_Ob h g) g1 g2.1 (g2.2 d)
  exact ⟨fun _ => hK σ3 ⟨d, ag.2⟩, fun z => absurd ag.1 z⟩
theorem Law_c861 {L : Nat} {fx : Nat → Int} {K : lwKT} {v3 : Int} {σ : Hp} (b1 : 0 ≤ wr (v3 + 1) ∧ wr (v3 + 1) < (L : Int)) (b2 : 0 ≤ wr (v3 + 2) ∧ wr (v3 + 2) < (L : Int)) (b3 : 0 ≤ wr (v3 + 3) ∧ wr (v3 + 3) < (L : Int)) (b4 : 0 ≤ wr (v3 + 4) ∧ wr (v3 + 4) < (L : Int)) (b5 : 0 ≤ wr (v3 + 5) ∧ wr (v3 + 5) < (L : Int)) (hL : ∃ d, LI d σ) (hK : ∀ σ', (∃ d, LI d σ') → K 1393 [] (lwL L v3) σ') :
  Gh_rank_pre 0 σ ∧
  ∀ (r2 : Int) (σ1 : Hp), Gh_rank_post 0 σ r2 σ1 →
  Mo_rank_pre 67 σ1 ∧
  ∀ (r4 : Int) (σ3 : Hp), Mo_rank_post 67 σ1 r4 σ3 →
  (r2 = r4 →
    K 1393 [] [.inr (.inr (.inl (1002, 7, L))), .inr (.inr (.inl (0, 0, 8))), .inr (.inr (.inl (67, 0, 9))), .inl v3] σ3) ∧
  (¬ (r2 = r4) →
    (some (.inl 0) : Option AV) = some (.inl 1)) := by
  obtain ⟨d, hl⟩ := hL
  refine ⟨⟨rfl, hl.xp⟩, fun r2 σ1 g1 => ⟨⟨rfl, hl.mp g1.1⟩, fun r4 σ3 g2 => ?_⟩⟩
  have ag := agree (S := fun A => s_rank A) (d' := d) hl (fun h => uq_rank _) (fun _ _ h g => w_rank h g) g1 g2.1 (g2.2 d)
  exact ⟨fun _ => hK σ3 ⟨d, ag.2⟩, fun z => absurd ag.1 z⟩
theorem Law_c874 {L : Nat} {fx : Nat → Int} {K : lwKT} {v3 : Int} {σ : Hp} (b1 : 0 ≤ wr (v3 + 1) ∧ wr (v3 + 1) < (L : Int)) (b2 : 0 ≤ wr (v3 + 2) ∧ wr (v3 + 2) < (L : Int)) (b3 : 0 ≤ wr (v3 + 3) ∧ wr (v3 + 3) < (L : Int)) (b4 : 0 ≤ wr (v3 + 4) ∧ wr (v3 + 4) < (L : Int)) (b5 : 0 ≤ wr (v3 + 5) ∧ wr (v3 + 5) < (L : Int)) (hL : ∃ d, LI d σ) (hK : ∀ σ', (∃ d, LI d σ') → K 1393 [] (lwL L v3) σ') :
  Gh_words_pre 0 σ ∧
  ∀ (r2 : Int) (σ1 : Hp), Gh_words_post 0 σ r2 σ1 →
  Mo_words_pre 67 σ1 ∧
  ∀ (r4 : Int) (σ3 : Hp), Mo_words_post 67 σ1 r4 σ3 →
  (r2 = r4 →
    K 1393 [] [.inr (.inr (.inl (1002, 7, L))), .inr (.inr (.inl (0, 0, 8))), .inr (.inr (.inl (67, 0, 9))), .inl v3] σ3) ∧
  (¬ (r2 = r4) →
    (some (.inl 0) : Option AV) = some (.inl 1)) := by
  obtain ⟨d, hl⟩ := hL
  refine ⟨⟨rfl, hl.xp⟩, fun r2 σ1 g1 => ⟨⟨rfl, hl.mp g1.1⟩, fun r4 σ3 g2 => ?_⟩⟩
  have ag := agree (S := fun A => s_words A) (d' := d) hl (fun h => uq_words _) (fun _ _ h g => w_Ob h g) g1 g2.1 (g2.2 d)
  exact ⟨fun _ => hK σ3 ⟨d, ag.2⟩, fun z => absurd ag.1 z⟩
theorem Law_c887 {L : Nat} {fx : Nat → Int} {K : lwKT} {v3 : Int} {σ : Hp} (b1 : 0 ≤ wr (v3 + 1) ∧ wr (v3 + 1) < (L : Int)) (b2 : 0 ≤ wr (v3 + 2) ∧ wr (v3 + 2) < (L : Int)) (b3 : 0 ≤ wr (v3 + 3) ∧ wr (v3 + 3) < (L : Int)) (b4 : 0 ≤ wr (v3 + 4) ∧ wr (v3 + 4) < (L : Int)) (b5 : 0 ≤ wr (v3 + 5) ∧ wr (v3 + 5) < (L : Int)) (hL : ∃ d, LI d σ) (hK : ∀ σ', (∃ d, LI d σ') → K 1393 [] (lwL L v3) σ') :
  Gh_peace_pre 0 σ ∧
  ∀ (r2 : Int) (σ1 : Hp), Gh_peace_post 0 σ r2 σ1 →
  Mo_peace_pre 67 σ1 ∧
  ∀ (r4 : Int) (σ3 : Hp), Mo_peace_post 67 σ1 r4 σ3 →
  (r2 = r4 →
    K 1393 [] [.inr (.inr (.inl (1002, 7, L))), .inr (.inr (.inl (0, 0, 8))), .inr (.inr (.inl (67, 0, 9))), .inl v3] σ3) ∧
  (¬ (r2 = r4) →
    (some (.inl 0) : Option AV) = some (.inl 1)) := by
  obtain ⟨d, hl⟩ := hL
  refine ⟨⟨rfl, hl.xp⟩, fun r2 σ1 g1 => ⟨⟨rfl, hl.mp g1.1⟩, fun r4 σ3 g2 => ?_⟩⟩
  have ag := agree (S := fun A => s_peace A) (d' := d) hl (fun h => uq_peace _) (fun _ _ h g => w_Ob h g) g1 g2.1 (g2.2 d)
  exact ⟨fun _ => hK σ3 ⟨d, ag.2⟩, fun z => absurd ag.1 z⟩
theorem Law_c900 {L : Nat} {fx : Nat → Int} {K : lwKT} {v3 : Int} {σ : Hp} (b1 : 0 ≤ wr (v3 + 1) ∧ wr (v3 + 1) < (L : Int)) (b2 : 0 ≤ wr (v3 + 2) ∧ wr (v3 + 2) < (L : Int)) (b3 : 0 ≤ wr (v3 + 3) ∧ wr (v3 + 3) < (L : Int)) (b4 : 0 ≤ wr (v3 + 4) ∧ wr (v3 + 4) < (L : Int)) (b5 : 0 ≤ wr (v3 + 5) ∧ wr (v3 + 5) < (L : Int)) (hL : ∃ d, LI d σ) (hK : ∀ σ', (∃ d, LI d σ') → K 1393 [] (lwL L v3) σ') :
  (0 ≤ wr (v3 + 1) ∧ wr (v3 + 1) < (L : Int)) ∧
  Gh_burden_pre 0 (fx (wr (v3 + 1)).toNat) σ ∧
  ∀ (r2 : Int) (σ1 : Hp), Gh_burden_post 0 (fx (wr (v3 + 1)).toNat) σ r2 σ1 →
  (0 ≤ wr (v3 + 1) ∧ wr (v3 + 1) < (L : Int)) ∧
  Mo_burden_pre 67 (fx (wr (v3 + 1)).toNat) σ1 ∧
  ∀ (r4 : Int) (σ3 : Hp), Mo_burden_post 67 (fx (wr (v3 + 1)).toNat) σ1 r4 σ3 →
  (r2 = r4 →
    K 1393 [] [.inr (.inr (.inl (1002, 7, L))), .inr (.inr (.inl (0, 0, 8))), .inr (.inr (.inl (67, 0, 9))), .inl v3] σ3) ∧
  (¬ (r2 = r4) →
    (some (.inl 0) : Option AV) = some (.inl 1)) := by
  obtain ⟨d, hl⟩ := hL
  refine ⟨b1, ⟨rfl, hl.xp⟩, fun r2 σ1 g1 => ⟨b1, ⟨rfl, hl.mp g1.1⟩, fun r4 σ3 g2 => ?_⟩⟩
  have ag := agree (S := fun A => s_burden A (fx (wr (v3 + 1)).toNat)) (d' := d) hl (fun h => uq_burden _ _) (fun _ _ h g => w_Ob h g) g1 g2.1 (g2.2 d)
  exact ⟨fun _ => hK σ3 ⟨d, ag.2⟩, fun z => absurd ag.1 z⟩
theorem Law_c923 {L : Nat} {fx : Nat → Int} {K : lwKT} {v3 : Int} {σ : Hp} (b1 : 0 ≤ wr (v3 + 1) ∧ wr (v3 + 1) < (L : Int)) (b2 : 0 ≤ wr (v3 + 2) ∧ wr (v3 + 2) < (L : Int)) (b3 : 0 ≤ wr (v3 + 3) ∧ wr (v3 + 3) < (L : Int)) (b4 : 0 ≤ wr (v3 + 4) ∧ wr (v3 + 4) < (L : Int)) (b5 : 0 ≤ wr (v3 + 5) ∧ wr (v3 + 5) < (L : Int)) (hL : ∃ d, LI d σ) (hK : ∀ σ', (∃ d, LI d σ') → K 1393 [] (lwL L v3) σ') :
  Gh_calm_pre 0 σ ∧
  ∀ (r2 : Int) (σ1 : Hp), Gh_calm_post 0 σ r2 σ1 →
  Mo_calm_pre 67 σ1 ∧
  ∀ (r4 : Int) (σ3 : Hp), Mo_calm_post 67 σ1 r4 σ3 →
  (r2 = r4 →
    K 1393 [] [.inr (.inr (.inl (1002, 7, L))), .inr (.inr (.inl (0, 0, 8))), .inr (.inr (.inl (67, 0, 9))), .inl v3] σ3) ∧
  (¬ (r2 = r4) →
    (some (.inl 0) : Option AV) = some (.inl 1)) := by
  obtain ⟨d, hl⟩ := hL
  refine ⟨⟨rfl, hl.xp⟩, fun r2 σ1 g1 => ⟨⟨rfl, hl.mp g1.1⟩, fun r4 σ3 g2 => ?_⟩⟩
  have ag := agree (S := fun A => s_calm A) (d' := d) hl (fun h => uq_calm _) (fun _ _ h g => w_Ob h g) g1 g2.1 (g2.2 d)
  exact ⟨fun _ => hK σ3 ⟨d, ag.2⟩, fun z => absurd ag.1 z⟩
theorem Law_c936 {L : Nat} {fx : Nat → Int} {K : lwKT} {v3 : Int} {σ : Hp} (b1 : 0 ≤ wr (v3 + 1) ∧ wr (v3 + 1) < (L : Int)) (b2 : 0 ≤ wr (v3 + 2) ∧ wr (v3 + 2) < (L : Int)) (b3 : 0 ≤ wr (v3 + 3) ∧ wr (v3 + 3) < (L : Int)) (b4 : 0 ≤ wr (v3 + 4) ∧ wr (v3 + 4) < (L : Int)) (b5 : 0 ≤ wr (v3 + 5) ∧ wr (v3 + 5) < (L : Int)) (hL : ∃ d, LI d σ) (hK : ∀ σ', (∃ d, LI d σ') → K 1393 [] (lwL L v3) σ') :
  (0 ≤ wr (v3 + 1) ∧ wr (v3 + 1) < (L : Int)) ∧
  Gh_law_pre 0 (fx (wr (v3 + 1)).toNat) σ ∧
  ∀ (r2 : Int) (σ1 : Hp), Gh_law_post 0 (fx (wr (v3 + 1)).toNat) σ r2 σ1 →
  (0 ≤ wr (v3 + 1) ∧ wr (v3 + 1) < (L : Int)) ∧
  Mo_law_pre 67 (fx (wr (v3 + 1)).toNat) σ1 ∧
  ∀ (r4 : Int) (σ3 : Hp), Mo_law_post 67 (fx (wr (v3 + 1)).toNat) σ1 r4 σ3 →
  (r2 = r4 →
    K 1393 [] [.inr (.inr (.inl (1002, 7, L))), .inr (.inr (.inl (0, 0, 8))), .inr (.inr (.inl (67, 0, 9))), .inl v3] σ3) ∧
  (¬ (r2 = r4) →
    (some (.inl 0) : Option AV) = some (.inl 1)) := by
  obtain ⟨d, hl⟩ := hL
  refine ⟨b1, ⟨rfl, hl.xp⟩, fun r2 σ1 g1 => ⟨b1, ⟨rfl, hl.mp g1.1⟩, fun r4 σ3 g2 => ?_⟩⟩
  have ag := agree (S := fun A => s_law A (fx (wr (v3 + 1)).toNat)) (d' := d) hl (fun h => uq_law _ _) (fun _ _ h g => w_Ob h g) g1 g2.1 (g2.2 d)
  exact ⟨fun _ => hK σ3 ⟨d, ag.2⟩, fun z => absurd ag.1 z⟩
theorem Law_c959 {L : Nat} {fx : Nat → Int} {K : lwKT} {v3 : Int} {σ : Hp} (b1 : 0 ≤ wr (v3 + 1) ∧ wr (v3 + 1) < (L : Int)) (b2 : 0 ≤ wr (v3 + 2) ∧ wr (v3 + 2) < (L : Int)) (b3 : 0 ≤ wr (v3 + 3) ∧ wr (v3 + 3) < (L : Int)) (b4 : 0 ≤ wr (v3 + 4) ∧ wr (v3 + 4) < (L : Int)) (b5 : 0 ≤ wr (v3 + 5) ∧ wr (v3 + 5) < (L : Int)) (hL : ∃ d, LI d σ) (hK : ∀ σ', (∃ d, LI d σ') → K 1393 [] (lwL L v3) σ') :
  (0 ≤ wr (v3 + 1) ∧ wr (v3 + 1) < (L : Int)) ∧
  (0 ≤ wr (v3 + 2) ∧ wr (v3 + 2) < (L : Int)) ∧
  Gh_odds_pre 0 (fx (wr (v3 + 1)).toNat) (fx (wr (v3 + 2)).toNat) σ ∧
  ∀ (r2 : Int) (σ1 : Hp), Gh_odds_post 0 (fx (wr (v3 + 1)).toNat) (fx (wr (v3 + 2)).toNat) σ r2 σ1 →
  (0 ≤ wr (v3 + 1) ∧ wr (v3 + 1) < (L : Int)) ∧
  (0 ≤ wr (v3 + 2) ∧ wr (v3 + 2) < (L : Int)) ∧
  Mo_odds_pre 67 (fx (wr (v3 + 1)).toNat) (fx (wr (v3 + 2)).toNat) σ1 ∧
  ∀ (r4 : Int) (σ3 : Hp), Mo_odds_post 67 (fx (wr (v3 + 1)).toNat) (fx (wr (v3 + 2)).toNat) σ1 r4 σ3 →
  (r2 = r4 →
    K 1393 [] [.inr (.inr (.inl (1002, 7, L))), .inr (.inr (.inl (0, 0, 8))), .inr (.inr (.inl (67, 0, 9))), .inl v3] σ3) ∧
  (¬ (r2 = r4) →
    (some (.inl 0) : Option AV) = some (.inl 1)) := by
  obtain ⟨d, hl⟩ := hL
  refine ⟨b1, b2, ⟨rfl, hl.xp⟩, fun r2 σ1 g1 => ⟨b1, b2, ⟨rfl, hl.mp g1.1⟩, fun r4 σ3 g2 => ?_⟩⟩
  have ag := agree (S := fun A => s_odds A (fx (wr (v3 + 1)).toNat) (fx (wr (v3 + 2)).toNat)) (d' := d) hl (fun h => uq_odds _ _ _) (fun _ _ h g => w_Ob h g) g1 g2.1 (g2.2 d)
  exact ⟨fun _ => hK σ3 ⟨d, ag.2⟩, fun z => absurd ag.1 z⟩
theorem Law_c992 {L : Nat} {fx : Nat → Int} {K : lwKT} {v3 : Int} {σ : Hp} (b1 : 0 ≤ wr (v3 + 1) ∧ wr (v3 + 1) < (L : Int)) (b2 : 0 ≤ wr (v3 + 2) ∧ wr (v3 + 2) < (L : Int)) (b3 : 0 ≤ wr (v3 + 3) ∧ wr (v3 + 3) < (L : Int)) (b4 : 0 ≤ wr (v3 + 4) ∧ wr (v3 + 4) < (L : Int)) (b5 : 0 ≤ wr (v3 + 5) ∧ wr (v3 + 5) < (L : Int)) (hL : ∃ d, LI d σ) (hK : ∀ σ', (∃ d, LI d σ') → K 1393 [] (lwL L v3) σ') :
  (0 ≤ wr (v3 + 1) ∧ wr (v3 + 1) < (L : Int)) ∧
  (0 ≤ wr (v3 + 2) ∧ wr (v3 + 2) < (L : Int)) ∧
  Gh_duel_pre 0 (fx (wr (v3 + 1)).toNat) (fx (wr (v3 + 2)).toNat) σ ∧
  ∀ (r2 : Int) (σ1 : Hp), Gh_duel_post 0 (fx (wr (v3 + 1)).toNat) (fx (wr (v3 + 2)).toNat) σ r2 σ1 →
  (0 ≤ wr (v3 + 1) ∧ wr (v3 + 1) < (L : Int)) ∧
  (0 ≤ wr (v3 + 2) ∧ wr (v3 + 2) < (L : Int)) ∧
  Mo_duel_pre 67 (fx (wr (v3 + 1)).toNat) (fx (wr (v3 + 2)).toNat) σ1 ∧
  ∀ (r4 : Int) (σ3 : Hp), Mo_duel_post 67 (fx (wr (v3 + 1)).toNat) (fx (wr (v3 + 2)).toNat) σ1 r4 σ3 →
  (r2 = r4 →
    K 1393 [] [.inr (.inr (.inl (1002, 7, L))), .inr (.inr (.inl (0, 0, 8))), .inr (.inr (.inl (67, 0, 9))), .inl v3] σ3) ∧
  (¬ (r2 = r4) →
    (some (.inl 0) : Option AV) = some (.inl 1)) := by
  obtain ⟨d, hl⟩ := hL
  refine ⟨b1, b2, ⟨rfl, hl.xp⟩, fun r2 σ1 g1 => ⟨b1, b2, ⟨rfl, hl.mp g1.1⟩, fun r4 σ3 g2 => ?_⟩⟩
  have ag := agree (S := fun A => s_duel A (fx (wr (v3 + 1)).toNat) (fx (wr (v3 + 2)).toNat)) (d' := d) hl (fun h => uq_duel _ _ _) (fun _ _ h g => w_duel h g) g1 g2.1 (g2.2 d)
  exact ⟨fun _ => hK σ3 ⟨d, ag.2⟩, fun z => absurd ag.1 z⟩
theorem Law_c1025 {L : Nat} {fx : Nat → Int} {K : lwKT} {v3 : Int} {σ : Hp} (b1 : 0 ≤ wr (v3 + 1) ∧ wr (v3 + 1) < (L : Int)) (b2 : 0 ≤ wr (v3 + 2) ∧ wr (v3 + 2) < (L : Int)) (b3 : 0 ≤ wr (v3 + 3) ∧ wr (v3 + 3) < (L : Int)) (b4 : 0 ≤ wr (v3 + 4) ∧ wr (v3 + 4) < (L : Int)) (b5 : 0 ≤ wr (v3 + 5) ∧ wr (v3 + 5) < (L : Int)) (hL : ∃ d, LI d σ) (hK : ∀ σ', (∃ d, LI d σ') → K 1393 [] (lwL L v3) σ') :
  (0 ≤ wr (v3 + 1) ∧ wr (v3 + 1) < (L : Int)) ∧
  Gh_path_pre 0 (fx (wr (v3 + 1)).toNat) σ ∧
  ∀ (r2 : Int) (σ1 : Hp), Gh_path_post 0 (fx (wr (v3 + 1)).toNat) σ r2 σ1 →
  (0 ≤ wr (v3 + 1) ∧ wr (v3 + 1) < (L : Int)) ∧
  Mo_path_pre 67 (fx (wr (v3 + 1)).toNat) σ1 ∧
  ∀ (r4 : Int) (σ3 : Hp), Mo_path_post 67 (fx (wr (v3 + 1)).toNat) σ1 r4 σ3 →
  (r2 = r4 →
    K 1393 [] [.inr (.inr (.inl (1002, 7, L))), .inr (.inr (.inl (0, 0, 8))), .inr (.inr (.inl (67, 0, 9))), .inl v3] σ3) ∧
  (¬ (r2 = r4) →
    (some (.inl 0) : Option AV) = some (.inl 1)) := by
  obtain ⟨d, hl⟩ := hL
  refine ⟨b1, ⟨rfl, hl.xp⟩, fun r2 σ1 g1 => ⟨b1, ⟨rfl, hl.mp g1.1⟩, fun r4 σ3 g2 => ?_⟩⟩
  have ag := agree (S := fun A => s_path A (fx (wr (v3 + 1)).toNat)) (d' := d) hl (fun h => uq_path _ _) (fun _ _ h g => w_path h g) g1 g2.1 (g2.2 d)
  exact ⟨fun _ => hK σ3 ⟨d, ag.2⟩, fun z => absurd ag.1 z⟩
theorem Law_c1048 {L : Nat} {fx : Nat → Int} {K : lwKT} {v3 : Int} {σ : Hp} (b1 : 0 ≤ wr (v3 + 1) ∧ wr (v3 + 1) < (L : Int)) (b2 : 0 ≤ wr (v3 + 2) ∧ wr (v3 + 2) < (L : Int)) (b3 : 0 ≤ wr (v3 + 3) ∧ wr (v3 + 3) < (L : Int)) (b4 : 0 ≤ wr (v3 + 4) ∧ wr (v3 + 4) < (L : Int)) (b5 : 0 ≤ wr (v3 + 5) ∧ wr (v3 + 5) < (L : Int)) (hL : ∃ d, LI d σ) (hK : ∀ σ', (∃ d, LI d σ') → K 1393 [] (lwL L v3) σ') :
  (0 ≤ wr (v3 + 1) ∧ wr (v3 + 1) < (L : Int)) ∧
  (0 ≤ wr (v3 + 2) ∧ wr (v3 + 2) < (L : Int)) ∧
  Gh_silence_pre 0 (fx (wr (v3 + 1)).toNat) (fx (wr (v3 + 2)).toNat) σ ∧
  ∀ (r2 : Int) (σ1 : Hp), Gh_silence_post 0 (fx (wr (v3 + 1)).toNat) (fx (wr (v3 + 2)).toNat) σ r2 σ1 →
  (0 ≤ wr (v3 + 1) ∧ wr (v3 + 1) < (L : Int)) ∧
  (0 ≤ wr (v3 + 2) ∧ wr (v3 + 2) < (L : Int)) ∧
  Mo_silence_pre 67 (fx (wr (v3 + 1)).toNat) (fx (wr (v3 + 2)).toNat) σ1 ∧
  ∀ (r4 : Int) (σ3 : Hp), Mo_silence_post 67 (fx (wr (v3 + 1)).toNat) (fx (wr (v3 + 2)).toNat) σ1 r4 σ3 →
  (r2 = r4 →
    K 1393 [] [.inr (.inr (.inl (1002, 7, L))), .inr (.inr (.inl (0, 0, 8))), .inr (.inr (.inl (67, 0, 9))), .inl v3] σ3) ∧
  (¬ (r2 = r4) →
    (some (.inl 0) : Option AV) = some (.inl 1)) := by
  obtain ⟨d, hl⟩ := hL
  refine ⟨b1, b2, ⟨rfl, hl.xp⟩, fun r2 σ1 g1 => ⟨b1, b2, ⟨rfl, hl.mp g1.1⟩, fun r4 σ3 g2 => ?_⟩⟩
  have ag := agree (S := fun A => s_silence A (fx (wr (v3 + 1)).toNat) (fx (wr (v3 + 2)).toNat)) (d' := d) hl (fun h => uq_silence _ _ _) (fun _ _ h g => w_Ob h g) g1 g2.1 (g2.2 d)
  exact ⟨fun _ => hK σ3 ⟨d, ag.2⟩, fun z => absurd ag.1 z⟩
theorem Law_c1081 {L : Nat} {fx : Nat → Int} {K : lwKT} {v3 : Int} {σ : Hp} (b1 : 0 ≤ wr (v3 + 1) ∧ wr (v3 + 1) < (L : Int)) (b2 : 0 ≤ wr (v3 + 2) ∧ wr (v3 + 2) < (L : Int)) (b3 : 0 ≤ wr (v3 + 3) ∧ wr (v3 + 3) < (L : Int)) (b4 : 0 ≤ wr (v3 + 4) ∧ wr (v3 + 4) < (L : Int)) (b5 : 0 ≤ wr (v3 + 5) ∧ wr (v3 + 5) < (L : Int)) (hL : ∃ d, LI d σ) (hK : ∀ σ', (∃ d, LI d σ') → K 1393 [] (lwL L v3) σ') :
  Gh_alone_pre 0 σ ∧
  ∀ (r2 : Int) (σ1 : Hp), Gh_alone_post 0 σ r2 σ1 →
  Mo_alone_pre 67 σ1 ∧
  ∀ (r4 : Int) (σ3 : Hp), Mo_alone_post 67 σ1 r4 σ3 →
  (r2 = r4 →
    K 1393 [] [.inr (.inr (.inl (1002, 7, L))), .inr (.inr (.inl (0, 0, 8))), .inr (.inr (.inl (67, 0, 9))), .inl v3] σ3) ∧
  (¬ (r2 = r4) →
    (some (.inl 0) : Option AV) = some (.inl 1)) := by
  obtain ⟨d, hl⟩ := hL
  refine ⟨⟨rfl, hl.xp⟩, fun r2 σ1 g1 => ⟨⟨rfl, hl.mp g1.1⟩, fun r4 σ3 g2 => ?_⟩⟩
  have ag := agree (S := fun A => s_alone A) (d' := d) hl (fun h => uq_alone _) (fun _ _ h g => w_Ob h g) g1 g2.1 (g2.2 d)
  exact ⟨fun _ => hK σ3 ⟨d, ag.2⟩, fun z => absurd ag.1 z⟩
theorem Law_c1094 {L : Nat} {fx : Nat → Int} {K : lwKT} {v3 : Int} {σ : Hp} (b1 : 0 ≤ wr (v3 + 1) ∧ wr (v3 + 1) < (L : Int)) (b2 : 0 ≤ wr (v3 + 2) ∧ wr (v3 + 2) < (L : Int)) (b3 : 0 ≤ wr (v3 + 3) ∧ wr (v3 + 3) < (L : Int)) (b4 : 0 ≤ wr (v3 + 4) ∧ wr (v3 + 4) < (L : Int)) (b5 : 0 ≤ wr (v3 + 5) ∧ wr (v3 + 5) < (L : Int)) (hL : ∃ d, LI d σ) (hK : ∀ σ', (∃ d, LI d σ') → K 1393 [] (lwL L v3) σ') :
  Gh_heaviest_pre 0 σ ∧
  ∀ (r2 : Int) (σ1 : Hp), Gh_heaviest_post 0 σ r2 σ1 →
  Mo_heaviest_pre 67 σ1 ∧
  ∀ (r4 : Int) (σ3 : Hp), Mo_heaviest_post 67 σ1 r4 σ3 →
  (r2 = r4 →
    K 1393 [] [.inr (.inr (.inl (1002, 7, L))), .inr (.inr (.inl (0, 0, 8))), .inr (.inr (.inl (67, 0, 9))), .inl v3] σ3) ∧
  (¬ (r2 = r4) →
    (some (.inl 0) : Option AV) = some (.inl 1)) := by
  obtain ⟨d, hl⟩ := hL
  refine ⟨⟨rfl, hl.xp⟩, fun r2 σ1 g1 => ⟨⟨rfl, hl.mp g1.1⟩, fun r4 σ3 g2 => ?_⟩⟩
  have ag := agree (S := fun A => s_heaviest A) (d' := d) hl (fun h => uq_heaviest _) (fun _ _ h g => w_Ob h g) g1 g2.1 (g2.2 d)
  exact ⟨fun _ => hK σ3 ⟨d, ag.2⟩, fun z => absurd ag.1 z⟩
theorem Law_c1107 {L : Nat} {fx : Nat → Int} {K : lwKT} {v3 : Int} {σ : Hp} (b1 : 0 ≤ wr (v3 + 1) ∧ wr (v3 + 1) < (L : Int)) (b2 : 0 ≤ wr (v3 + 2) ∧ wr (v3 + 2) < (L : Int)) (b3 : 0 ≤ wr (v3 + 3) ∧ wr (v3 + 3) < (L : Int)) (b4 : 0 ≤ wr (v3 + 4) ∧ wr (v3 + 4) < (L : Int)) (b5 : 0 ≤ wr (v3 + 5) ∧ wr (v3 + 5) < (L : Int)) (hL : ∃ d, LI d σ) (hK : ∀ σ', (∃ d, LI d σ') → K 1393 [] (lwL L v3) σ') :
  (0 ≤ wr (v3 + 1) ∧ wr (v3 + 1) < (L : Int)) ∧
  Gh_lies_pre 0 (fx (wr (v3 + 1)).toNat) σ ∧
  ∀ (r2 : Int) (σ1 : Hp), Gh_lies_post 0 (fx (wr (v3 + 1)).toNat) σ r2 σ1 →
  (0 ≤ wr (v3 + 1) ∧ wr (v3 + 1) < (L : Int)) ∧
  Mo_lies_pre 67 (fx (wr (v3 + 1)).toNat) σ1 ∧
  ∀ (r4 : Int) (σ3 : Hp), Mo_lies_post 67 (fx (wr (v3 + 1)).toNat) σ1 r4 σ3 →
  (r2 = r4 →
    K 1393 [] [.inr (.inr (.inl (1002, 7, L))), .inr (.inr (.inl (0, 0, 8))), .inr (.inr (.inl (67, 0, 9))), .inl v3] σ3) ∧
  (¬ (r2 = r4) →
    (some (.inl 0) : Option AV) = some (.inl 1)) := by
  obtain ⟨d, hl⟩ := hL
  refine ⟨b1, ⟨rfl, hl.xp⟩, fun r2 σ1 g1 => ⟨b1, ⟨rfl, hl.mp g1.1⟩, fun r4 σ3 g2 => ?_⟩⟩
  have ag := agree (S := fun A => s_lies A (fx (wr (v3 + 1)).toNat)) (d' := d) hl (fun h => uq_lies _ _) (fun _ _ h g => w_Ob h g) g1 g2.1 (g2.2 d)
  exact ⟨fun _ => hK σ3 ⟨d, ag.2⟩, fun z => absurd ag.1 z⟩
theorem Law_c1130 {L : Nat} {fx : Nat → Int} {K : lwKT} {v3 : Int} {σ : Hp} (b1 : 0 ≤ wr (v3 + 1) ∧ wr (v3 + 1) < (L : Int)) (b2 : 0 ≤ wr (v3 + 2) ∧ wr (v3 + 2) < (L : Int)) (b3 : 0 ≤ wr (v3 + 3) ∧ wr (v3 + 3) < (L : Int)) (b4 : 0 ≤ wr (v3 + 4) ∧ wr (v3 + 4) < (L : Int)) (b5 : 0 ≤ wr (v3 + 5) ∧ wr (v3 + 5) < (L : Int)) (hL : ∃ d, LI d σ) (hK : ∀ σ', (∃ d, LI d σ') → K 1393 [] (lwL L v3) σ') :
  (0 ≤ wr (v3 + 1) ∧ wr (v3 + 1) < (L : Int)) ∧
  (0 ≤ wr (v3 + 2) ∧ wr (v3 + 2) < (L : Int)) ∧
  (0 ≤ wr (v3 + 3) ∧ wr (v3 + 3) < (L : Int)) ∧
  (fx (wr (v3 + 3)).toNat = 0 →
    Gh_seen_pre 0 (fx (wr (v3 + 1)).toNat) (fx (wr (v3 + 2)).toNat) 0 σ ∧
    ∀ (r2 : Int) (σ1 : Hp), Gh_seen_post 0 (fx (wr (v3 + 1)).toNat) (fx (wr (v3 + 2)).toNat) 0 σ r2 σ1 →
    (0 ≤ wr (v3 + 1) ∧ wr (v3 + 1) < (L : Int)) ∧
    (0 ≤ wr (v3 + 2) ∧ wr (v3 + 2) < (L : Int)) ∧
    (0 ≤ wr (v3 + 3) ∧ wr (v3 + 3) < (L : Int)) ∧
    (fx (wr (v3 + 3)).toNat = 0 →
      Mo_seen_pre 67 (fx (wr (v3 + 1)).toNat) (fx (wr (v3 + 2)).toNat) 0 σ1 ∧
      ∀ (r4 : Int) (σ3 : Hp), Mo_seen_post 67 (fx (wr (v3 + 1)).toNat) (fx (wr (v3 + 2)).toNat) 0 σ1 r4 σ3 →
      (r2 = r4 →
        K 1393 [] [.inr (.inr (.inl (1002, 7, L))), .inr (.inr (.inl (0, 0, 8))), .inr (.inr (.inl (67, 0, 9))), .inl v3] σ3) ∧
      (¬ (r2 = r4) →
        (some (.inl 0) : Option AV) = some (.inl 1))) ∧
    (¬ (fx (wr (v3 + 3)).toNat = 0) →
      Mo_seen_pre 67 (fx (wr (v3 + 1)).toNat) (fx (wr (v3 + 2)).toNat) 1 σ1 ∧
      ∀ (r6 : Int) (σ5 : Hp), Mo_seen_post 67 (fx (wr (v3 + 1)).toNat) (fx (wr (v3 + 2)).toNat) 1 σ1 r6 σ5 →
      (r2 = r6 →
        K 1393 [] [.inr (.inr (.inl (1002, 7, L))), .inr (.inr (.inl (0, 0, 8))), .inr (.inr (.inl (67, 0, 9))), .inl v3] σ5) ∧
      (¬ (r2 = r6) →
        (some (.inl 0) : Option AV) = some (.inl 1)))) ∧
  (¬ (fx (wr (v3 + 3)).toNat = 0) →
    Gh_seen_pre 0 (fx (wr (v3 + 1)).toNat) (fx (wr (v3 + 2)).toNat) 1 σ ∧
    ∀ (r8 : Int) (σ7 : Hp), Gh_seen_post 0 (fx (wr (v3 + 1)).toNat) (fx (wr (v3 + 2)).toNat) 1 σ r8 σ7 →
    (0 ≤ wr (v3 + 1) ∧ wr (v3 + 1) < (L : Int)) ∧
    (0 ≤ wr (v3 + 2) ∧ wr (v3 + 2) < (L : Int)) ∧
    (0 ≤ wr (v3 + 3) ∧ wr (v3 + 3) < (L : Int)) ∧
    (fx (wr (v3 + 3)).toNat = 0 →
      Mo_seen_pre 67 (fx (wr (v3 + 1)).toNat) (fx (wr (v3 + 2)).toNat) 0 σ7 ∧
      ∀ (r10 : Int) (σ9 : Hp), Mo_seen_post 67 (fx (wr (v3 + 1)).toNat) (fx (wr (v3 + 2)).toNat) 0 σ7 r10 σ9 →
      (r8 = r10 →
        K 1393 [] [.inr (.inr (.inl (1002, 7, L))), .inr (.inr (.inl (0, 0, 8))), .inr (.inr (.inl (67, 0, 9))), .inl v3] σ9) ∧
      (¬ (r8 = r10) →
        (some (.inl 0) : Option AV) = some (.inl 1))) ∧
    (¬ (fx (wr (v3 + 3)).toNat = 0) →
      Mo_seen_pre 67 (fx (wr (v3 + 1)).toNat) (fx (wr (v3 + 2)).toNat) 1 σ7 ∧
      ∀ (r12 : Int) (σ11 : Hp), Mo_seen_post 67 (fx (wr (v3 + 1)).toNat) (fx (wr (v3 + 2)).toNat) 1 σ7 r12 σ11 →
      (r8 = r12 →
        K 1393 [] [.inr (.inr (.inl (1002, 7, L))), .inr (.inr (.inl (0, 0, 8))), .inr (.inr (.inl (67, 0, 9))), .inl v3] σ11) ∧
      (¬ (r8 = r12) →
        (some (.inl 0) : Option AV) = some (.inl 1)))) := by
  obtain ⟨d, hl⟩ := hL
  have one : ∀ (w : Int), (w = 0 ∨ w = 1) → ∀ (r2 : Int) (σ1 : Hp), Gh_seen_post 0 (fx (wr (v3 + 1)).toNat) (fx (wr (v3 + 2)).toNat) w σ r2 σ1 → Mo_seen_pre 67 (fx (wr (v3 + 1)).toNat) (fx (wr (v3 + 2)).toNat) w σ1 ∧ ∀ (r4 : Int) (σ3 : Hp), Mo_seen_post 67 (fx (wr (v3 + 1)).toNat) (fx (wr (v3 + 2)).toNat) w σ1 r4 σ3 → (r2 = r4 → K 1393 [] (lwL L v3) σ3) ∧ (¬ (r2 = r4) → (some (.inl 0) : Option AV) = some (.inl 1)) := fun w hw r2 σ1 g1 => ⟨⟨rfl, hl.mp g1.1, hw⟩, fun r4 σ3 g2 => by
    have ag := agree (S := fun A => s_seen A (fx (wr (v3 + 1)).toNat) (fx (wr (v3 + 2)).toNat) w) (d' := d) hl (fun _ => uq_seen _ _ _ _) (fun _ _ h g => w_seen h g) g1 g2.1 (g2.2 d)
    exact ⟨fun _ => hK σ3 ⟨d, ag.2⟩, fun z => absurd ag.1 z⟩⟩
  refine ⟨b1, b2, b3, fun z => ⟨⟨rfl, hl.xp, Or.inl rfl⟩, fun r2 σ1 g1 => ⟨b1, b2, b3, fun _ => one 0 (Or.inl rfl) r2 σ1 g1, fun y => absurd z y⟩⟩, fun z => ⟨⟨rfl, hl.xp, Or.inr rfl⟩, fun r2 σ1 g1 => ⟨b1, b2, b3, fun y => absurd y z, fun _ => one 1 (Or.inr rfl) r2 σ1 g1⟩⟩⟩
theorem Law_c1189 {L : Nat} {fx : Nat → Int} {K : lwKT} {v3 : Int} {σ : Hp} (b1 : 0 ≤ wr (v3 + 1) ∧ wr (v3 + 1) < (L : Int)) (b2 : 0 ≤ wr (v3 + 2) ∧ wr (v3 + 2) < (L : Int)) (b3 : 0 ≤ wr (v3 + 3) ∧ wr (v3 + 3) < (L : Int)) (b4 : 0 ≤ wr (v3 + 4) ∧ wr (v3 + 4) < (L : Int)) (b5 : 0 ≤ wr (v3 + 5) ∧ wr (v3 + 5) < (L : Int)) (hL : ∃ d, LI d σ) (hK : ∀ σ', (∃ d, LI d σ') → K 1393 [] (lwL L v3) σ') :
  (0 ≤ wr (v3 + 1) ∧ wr (v3 + 1) < (L : Int)) ∧
  Gh_untell_pre 0 (fx (wr (v3 + 1)).toNat) σ ∧
  ∀ (r2 : Int) (σ1 : Hp), Gh_untell_post 0 (fx (wr (v3 + 1)).toNat) σ r2 σ1 →
  (0 ≤ wr (v3 + 1) ∧ wr (v3 + 1) < (L : Int)) ∧
  Mo_untell_pre 67 (fx (wr (v3 + 1)).toNat) σ1 ∧
  ∀ (r4 : Int) (σ3 : Hp), Mo_untell_post 67 (fx (wr (v3 + 1)).toNat) σ1 r4 σ3 →
  (r2 = r4 →
    K 1393 [] [.inr (.inr (.inl (1002, 7, L))), .inr (.inr (.inl (0, 0, 8))), .inr (.inr (.inl (67, 0, 9))), .inl v3] σ3) ∧
  (¬ (r2 = r4) →
    (some (.inl 0) : Option AV) = some (.inl 1)) := by
  obtain ⟨d, hl⟩ := hL
  refine ⟨b1, ⟨rfl, hl.xp⟩, fun r2 σ1 g1 => ⟨b1, ⟨rfl, hl.mp g1.1⟩, fun r4 σ3 g2 => ?_⟩⟩
  have ag := agree (S := fun A => s_untell A (fx (wr (v3 + 1)).toNat)) (d' := d) hl (fun h => uq_untell _ _) (fun _ _ h g => w_untell h g) g1 g2.1 (g2.2 d)
  exact ⟨fun _ => hK σ3 ⟨d, ag.2⟩, fun z => absurd ag.1 z⟩
theorem Law_c1212 {L : Nat} {fx : Nat → Int} {K : lwKT} {v3 : Int} {σ : Hp} (b1 : 0 ≤ wr (v3 + 1) ∧ wr (v3 + 1) < (L : Int)) (b2 : 0 ≤ wr (v3 + 2) ∧ wr (v3 + 2) < (L : Int)) (b3 : 0 ≤ wr (v3 + 3) ∧ wr (v3 + 3) < (L : Int)) (b4 : 0 ≤ wr (v3 + 4) ∧ wr (v3 + 4) < (L : Int)) (b5 : 0 ≤ wr (v3 + 5) ∧ wr (v3 + 5) < (L : Int)) (hL : ∃ d, LI d σ) (hK : ∀ σ', (∃ d, LI d σ') → K 1393 [] (lwL L v3) σ') :
  (0 ≤ wr (v3 + 1) ∧ wr (v3 + 1) < (L : Int)) ∧
  Gh_later_pre 0 (fx (wr (v3 + 1)).toNat) σ ∧
  ∀ (r2 : Int) (σ1 : Hp), Gh_later_post 0 (fx (wr (v3 + 1)).toNat) σ r2 σ1 →
  (0 ≤ wr (v3 + 1) ∧ wr (v3 + 1) < (L : Int)) ∧
  Mo_later_pre 67 (fx (wr (v3 + 1)).toNat) σ1 ∧
  ∀ (r4 : Int) (σ3 : Hp), Mo_later_post 67 (fx (wr (v3 + 1)).toNat) σ1 r4 σ3 →
  (r2 = r4 →
    K 1393 [] [.inr (.inr (.inl (1002, 7, L))), .inr (.inr (.inl (0, 0, 8))), .inr (.inr (.inl (67, 0, 9))), .inl v3] σ3) ∧
  (¬ (r2 = r4) →
    (some (.inl 0) : Option AV) = some (.inl 1)) := by
  obtain ⟨d, hl⟩ := hL
  refine ⟨b1, ⟨rfl, hl.xp⟩, fun r2 σ1 g1 => ⟨b1, ⟨rfl, hl.mp g1.1⟩, fun r4 σ3 g2 => ?_⟩⟩
  have ag := agree (S := fun A => s_later A (fx (wr (v3 + 1)).toNat)) (d' := d) hl (fun h => uq_later _ _) (fun _ _ h g => w_later h g) g1 g2.1 (g2.2 d)
  exact ⟨fun _ => hK σ3 ⟨d, ag.2⟩, fun z => absurd ag.1 z⟩
theorem Law_c1235 {L : Nat} {fx : Nat → Int} {K : lwKT} {v3 : Int} {σ : Hp} (b1 : 0 ≤ wr (v3 + 1) ∧ wr (v3 + 1) < (L : Int)) (b2 : 0 ≤ wr (v3 + 2) ∧ wr (v3 + 2) < (L : Int)) (b3 : 0 ≤ wr (v3 + 3) ∧ wr (v3 + 3) < (L : Int)) (b4 : 0 ≤ wr (v3 + 4) ∧ wr (v3 + 4) < (L : Int)) (b5 : 0 ≤ wr (v3 + 5) ∧ wr (v3 + 5) < (L : Int)) (hL : ∃ d, LI d σ) (hK : ∀ σ', (∃ d, LI d σ') → K 1393 [] (lwL L v3) σ') :
  (0 ≤ wr (v3 + 1) ∧ wr (v3 + 1) < (L : Int)) ∧
  Gh_fits_pre 0 (fx (wr (v3 + 1)).toNat) σ ∧
  ∀ (r2 : Int) (σ1 : Hp), Gh_fits_post 0 (fx (wr (v3 + 1)).toNat) σ r2 σ1 →
  (0 ≤ wr (v3 + 1) ∧ wr (v3 + 1) < (L : Int)) ∧
  Mo_fits_pre 67 (fx (wr (v3 + 1)).toNat) σ1 ∧
  ∀ (r4 : Int) (σ3 : Hp), Mo_fits_post 67 (fx (wr (v3 + 1)).toNat) σ1 r4 σ3 →
  (r2 = r4 →
    K 1393 [] [.inr (.inr (.inl (1002, 7, L))), .inr (.inr (.inl (0, 0, 8))), .inr (.inr (.inl (67, 0, 9))), .inl v3] σ3) ∧
  (¬ (r2 = r4) →
    (some (.inl 0) : Option AV) = some (.inl 1)) := by
  obtain ⟨d, hl⟩ := hL
  refine ⟨b1, ⟨rfl, hl.xp⟩, fun r2 σ1 g1 => ⟨b1, ⟨rfl, hl.mp g1.1⟩, fun r4 σ3 g2 => ?_⟩⟩
  have ag := agree (S := fun A => s_fits A (fx (wr (v3 + 1)).toNat)) (d' := d) hl (fun h => uq_fits _ _) (fun _ _ h g => w_Ob h g) g1 g2.1 (g2.2 d)
  exact ⟨fun _ => hK σ3 ⟨d, ag.2⟩, fun z => absurd ag.1 z⟩
theorem Law_c1258 {L : Nat} {fx : Nat → Int} {K : lwKT} {v3 : Int} {σ : Hp} (b1 : 0 ≤ wr (v3 + 1) ∧ wr (v3 + 1) < (L : Int)) (b2 : 0 ≤ wr (v3 + 2) ∧ wr (v3 + 2) < (L : Int)) (b3 : 0 ≤ wr (v3 + 3) ∧ wr (v3 + 3) < (L : Int)) (b4 : 0 ≤ wr (v3 + 4) ∧ wr (v3 + 4) < (L : Int)) (b5 : 0 ≤ wr (v3 + 5) ∧ wr (v3 + 5) < (L : Int)) (hL : ∃ d, LI d σ) (hK : ∀ σ', (∃ d, LI d σ') → K 1393 [] (lwL L v3) σ') :
  (0 ≤ wr (v3 + 1) ∧ wr (v3 + 1) < (L : Int)) ∧
  (0 ≤ wr (v3 + 2) ∧ wr (v3 + 2) < (L : Int)) ∧
  Gh_sure_pre 0 (fx (wr (v3 + 1)).toNat) (fx (wr (v3 + 2)).toNat) σ ∧
  ∀ (r2 : Int) (σ1 : Hp), Gh_sure_post 0 (fx (wr (v3 + 1)).toNat) (fx (wr (v3 + 2)).toNat) σ r2 σ1 →
  (0 ≤ wr (v3 + 1) ∧ wr (v3 + 1) < (L : Int)) ∧
  (0 ≤ wr (v3 + 2) ∧ wr (v3 + 2) < (L : Int)) ∧
  Mo_sure_pre 67 (fx (wr (v3 + 1)).toNat) (fx (wr (v3 + 2)).toNat) σ1 ∧
  ∀ (r4 : Int) (σ3 : Hp), Mo_sure_post 67 (fx (wr (v3 + 1)).toNat) (fx (wr (v3 + 2)).toNat) σ1 r4 σ3 →
  (r2 = r4 →
    K 1393 [] [.inr (.inr (.inl (1002, 7, L))), .inr (.inr (.inl (0, 0, 8))), .inr (.inr (.inl (67, 0, 9))), .inl v3] σ3) ∧
  (¬ (r2 = r4) →
    (some (.inl 0) : Option AV) = some (.inl 1)) := by
  obtain ⟨d, hl⟩ := hL
  refine ⟨b1, b2, ⟨rfl, hl.xp⟩, fun r2 σ1 g1 => ⟨b1, b2, ⟨rfl, hl.mp g1.1⟩, fun r4 σ3 g2 => ?_⟩⟩
  have ag := agree (S := fun A => s_sure A (fx (wr (v3 + 1)).toNat) (fx (wr (v3 + 2)).toNat)) (d' := d) hl (fun h => uq_sure _ _ _) (fun _ _ h g => w_Ob h g) g1 g2.1 (g2.2 d)
  exact ⟨fun _ => hK σ3 ⟨d, ag.2⟩, fun z => absurd ag.1 z⟩
theorem Law_c1291 {L : Nat} {fx : Nat → Int} {K : lwKT} {v3 : Int} {σ : Hp} (b1 : 0 ≤ wr (v3 + 1) ∧ wr (v3 + 1) < (L : Int)) (b2 : 0 ≤ wr (v3 + 2) ∧ wr (v3 + 2) < (L : Int)) (b3 : 0 ≤ wr (v3 + 3) ∧ wr (v3 + 3) < (L : Int)) (b4 : 0 ≤ wr (v3 + 4) ∧ wr (v3 + 4) < (L : Int)) (b5 : 0 ≤ wr (v3 + 5) ∧ wr (v3 + 5) < (L : Int)) (hL : ∃ d, LI d σ) (hK : ∀ σ', (∃ d, LI d σ') → K 1393 [] (lwL L v3) σ') :
  (0 ≤ wr (v3 + 1) ∧ wr (v3 + 1) < (L : Int)) ∧
  (0 ≤ wr (v3 + 2) ∧ wr (v3 + 2) < (L : Int)) ∧
  Gh_ask_pre 0 (fx (wr (v3 + 1)).toNat) (fx (wr (v3 + 2)).toNat) σ ∧
  ∀ (r2 : Int) (σ1 : Hp), Gh_ask_post 0 (fx (wr (v3 + 1)).toNat) (fx (wr (v3 + 2)).toNat) σ r2 σ1 →
  (0 ≤ wr (v3 + 1) ∧ wr (v3 + 1) < (L : Int)) ∧
  (0 ≤ wr (v3 + 2) ∧ wr (v3 + 2) < (L : Int)) ∧
  Mo_ask_pre 67 (fx (wr (v3 + 1)).toNat) (fx (wr (v3 + 2)).toNat) σ1 ∧
  ∀ (r4 : Int) (σ3 : Hp), Mo_ask_post 67 (fx (wr (v3 + 1)).toNat) (fx (wr (v3 + 2)).toNat) σ1 r4 σ3 →
  (r2 = r4 →
    K 1393 [] [.inr (.inr (.inl (1002, 7, L))), .inr (.inr (.inl (0, 0, 8))), .inr (.inr (.inl (67, 0, 9))), .inl v3] σ3) ∧
  (¬ (r2 = r4) →
    (some (.inl 0) : Option AV) = some (.inl 1)) := by
  obtain ⟨d, hl⟩ := hL
  refine ⟨b1, b2, ⟨rfl, hl.xp⟩, fun r2 σ1 g1 => ⟨b1, b2, ⟨rfl, hl.mp g1.1⟩, fun r4 σ3 g2 => ?_⟩⟩
  have ag := agree (S := fun A => s_ask A (fx (wr (v3 + 1)).toNat) (fx (wr (v3 + 2)).toNat)) (d' := d) hl (fun h => uq_ask _ _ _) (fun _ _ h g => w_Ob h g) g1 g2.1 (g2.2 d)
  exact ⟨fun _ => hK σ3 ⟨d, ag.2⟩, fun z => absurd ag.1 z⟩
theorem Law_c1324 {L : Nat} {fx : Nat → Int} {K : lwKT} {v3 : Int} {σ : Hp} (b1 : 0 ≤ wr (v3 + 1) ∧ wr (v3 + 1) < (L : Int)) (b2 : 0 ≤ wr (v3 + 2) ∧ wr (v3 + 2) < (L : Int)) (b3 : 0 ≤ wr (v3 + 3) ∧ wr (v3 + 3) < (L : Int)) (b4 : 0 ≤ wr (v3 + 4) ∧ wr (v3 + 4) < (L : Int)) (b5 : 0 ≤ wr (v3 + 5) ∧ wr (v3 + 5) < (L : Int)) (hL : ∃ d, LI d σ) (hK : ∀ σ', (∃ d, LI d σ') → K 1393 [] (lwL L v3) σ') :
  (0 ≤ wr (v3 + 1) ∧ wr (v3 + 1) < (L : Int)) ∧
  Gh_image_pre 0 (fx (wr (v3 + 1)).toNat) σ ∧
  ∀ (r2 : Int) (σ1 : Hp), Gh_image_post 0 (fx (wr (v3 + 1)).toNat) σ r2 σ1 →
  (0 ≤ wr (v3 + 1) ∧ wr (v3 + 1) < (L : Int)) ∧
  Mo_image_pre 67 (fx (wr (v3 + 1)).toNat) σ1 ∧
  ∀ (r4 : Int) (σ3 : Hp), Mo_image_post 67 (fx (wr (v3 + 1)).toNat) σ1 r4 σ3 →
  (r2 = r4 →
    K 1393 [] [.inr (.inr (.inl (1002, 7, L))), .inr (.inr (.inl (0, 0, 8))), .inr (.inr (.inl (67, 0, 9))), .inl v3] σ3) ∧
  (¬ (r2 = r4) →
    (some (.inl 0) : Option AV) = some (.inl 1)) := by
  obtain ⟨d, hl⟩ := hL
  refine ⟨b1, ⟨rfl, hl.xp⟩, fun r2 σ1 g1 => ⟨b1, ⟨rfl, hl.mp g1.1⟩, fun r4 σ3 g2 => ?_⟩⟩
  have ag := agree (S := fun A => s_image A (fx (wr (v3 + 1)).toNat)) (d' := d) hl (fun h => uq_image _ _) (fun _ _ h g => w_image h g) g1 g2.1 (g2.2 d)
  exact ⟨fun _ => hK σ3 ⟨d, ag.2⟩, fun z => absurd ag.1 z⟩
theorem Law_c1347 {L : Nat} {fx : Nat → Int} {K : lwKT} {v3 : Int} {σ : Hp} (b1 : 0 ≤ wr (v3 + 1) ∧ wr (v3 + 1) < (L : Int)) (b2 : 0 ≤ wr (v3 + 2) ∧ wr (v3 + 2) < (L : Int)) (b3 : 0 ≤ wr (v3 + 3) ∧ wr (v3 + 3) < (L : Int)) (b4 : 0 ≤ wr (v3 + 4) ∧ wr (v3 + 4) < (L : Int)) (b5 : 0 ≤ wr (v3 + 5) ∧ wr (v3 + 5) < (L : Int)) (hL : ∃ d, LI d σ) (hK : ∀ σ', (∃ d, LI d σ') → K 1393 [] (lwL L v3) σ') :
  (0 ≤ wr (v3 + 1) ∧ wr (v3 + 1) < (L : Int)) ∧
  Gh_back_pre 0 (fx (wr (v3 + 1)).toNat) σ ∧
  ∀ (r2 : Int) (σ1 : Hp), Gh_back_post 0 (fx (wr (v3 + 1)).toNat) σ r2 σ1 →
  (0 ≤ wr (v3 + 1) ∧ wr (v3 + 1) < (L : Int)) ∧
  Mo_back_pre 67 (fx (wr (v3 + 1)).toNat) σ1 ∧
  ∀ (r4 : Int) (σ3 : Hp), Mo_back_post 67 (fx (wr (v3 + 1)).toNat) σ1 r4 σ3 →
  (r2 = r4 →
    K 1393 [] [.inr (.inr (.inl (1002, 7, L))), .inr (.inr (.inl (0, 0, 8))), .inr (.inr (.inl (67, 0, 9))), .inl v3] σ3) ∧
  (¬ (r2 = r4) →
    (some (.inl 0) : Option AV) = some (.inl 1)) := by
  obtain ⟨d, hl⟩ := hL
  refine ⟨b1, ⟨rfl, hl.xp⟩, fun r2 σ1 g1 => ⟨b1, ⟨rfl, hl.mp g1.1⟩, fun r4 σ3 g2 => ?_⟩⟩
  have ag := agree (S := fun A => s_back A (fx (wr (v3 + 1)).toNat)) (d' := d) hl (fun h => uq_back _ _) (fun _ _ h g => w_back h g) g1 g2.1 (g2.2 d)
  exact ⟨fun _ => hK σ3 ⟨d, ag.2⟩, fun z => absurd ag.1 z⟩
theorem Law_c1370 {L : Nat} {fx : Nat → Int} {K : lwKT} {v3 : Int} {σ : Hp} (b1 : 0 ≤ wr (v3 + 1) ∧ wr (v3 + 1) < (L : Int)) (b2 : 0 ≤ wr (v3 + 2) ∧ wr (v3 + 2) < (L : Int)) (b3 : 0 ≤ wr (v3 + 3) ∧ wr (v3 + 3) < (L : Int)) (b4 : 0 ≤ wr (v3 + 4) ∧ wr (v3 + 4) < (L : Int)) (b5 : 0 ≤ wr (v3 + 5) ∧ wr (v3 + 5) < (L : Int)) (hL : ∃ d, LI d σ) (hK : ∀ σ', (∃ d, LI d σ') → K 1393 [] (lwL L v3) σ') :
  (0 ≤ wr (v3 + 1) ∧ wr (v3 + 1) < (L : Int)) ∧
  Gh_about_pre 0 (fx (wr (v3 + 1)).toNat) σ ∧
  ∀ (r2 : Int) (σ1 : Hp), Gh_about_post 0 (fx (wr (v3 + 1)).toNat) σ r2 σ1 →
  (0 ≤ wr (v3 + 1) ∧ wr (v3 + 1) < (L : Int)) ∧
  Mo_about_pre 67 (fx (wr (v3 + 1)).toNat) σ1 ∧
  ∀ (r4 : Int) (σ3 : Hp), Mo_about_post 67 (fx (wr (v3 + 1)).toNat) σ1 r4 σ3 →
  (r2 = r4 →
    K 1393 [] [.inr (.inr (.inl (1002, 7, L))), .inr (.inr (.inl (0, 0, 8))), .inr (.inr (.inl (67, 0, 9))), .inl v3] σ3) ∧
  (¬ (r2 = r4) →
    (some (.inl 0) : Option AV) = some (.inl 1)) := by
  obtain ⟨d, hl⟩ := hL
  refine ⟨b1, ⟨rfl, hl.xp⟩, fun r2 σ1 g1 => ⟨b1, ⟨rfl, hl.mp g1.1⟩, fun r4 σ3 g2 => ?_⟩⟩
  have ag := agree (S := fun A => s_about A (fx (wr (v3 + 1)).toNat)) (d' := d) hl (fun h => uq_about _ _) (fun _ _ h g => w_Ob h g) g1 g2.1 (g2.2 d)
  exact ⟨fun _ => hK σ3 ⟨d, ag.2⟩, fun z => absurd ag.1 z⟩
def Law_h18 (L : Nat) (fx : Nat → Int) (K : lwKT) (v3 : Int) (σ : Hp) : Prop :=
  (wr ((L : Int) - 6) < v3 →
    (some (.inl 1) : Option AV) = some (.inl 1)) ∧
  (¬ (wr ((L : Int) - 6) < v3) →
    (0 ≤ v3 ∧ v3 < (L : Int)) ∧
    (iAnd (fx v3.toNat) 63 = 0 →
      K 236 [] [.inr (.inr (.inl (1002, 7, L))), .inr (.inr (.inl (0, 0, 8))), .inr (.inr (.inl (67, 0, 9))), .inl v3] σ) ∧
    (¬ iAnd (fx v3.toNat) 63 = 0 →
      (iAnd (fx v3.toNat) 63 = 1 →
      K 299 [] [.inr (.inr (.inl (1002, 7, L))), .inr (.inr (.inl (0, 0, 8))), .inr (.inr (.inl (67, 0, 9))), .inl v3] σ) ∧
    (¬ iAnd (fx v3.toNat) 63 = 1 →
      (iAnd (fx v3.toNat) 63 = 2 →
      K 322 [] [.inr (.inr (.inl (1002, 7, L))), .inr (.inr (.inl (0, 0, 8))), .inr (.inr (.inl (67, 0, 9))), .inl v3] σ) ∧
    (¬ iAnd (fx v3.toNat) 63 = 2 →
      (iAnd (fx v3.toNat) 63 = 3 →
      K 335 [] [.inr (.inr (.inl (1002, 7, L))), .inr (.inr (.inl (0, 0, 8))), .inr (.inr (.inl (67, 0, 9))), .inl v3] σ) ∧
    (¬ iAnd (fx v3.toNat) 63 = 3 →
      (iAnd (fx v3.toNat) 63 = 4 →
      K 358 [] [.inr (.inr (.inl (1002, 7, L))), .inr (.inr (.inl (0, 0, 8))), .inr (.inr (.inl (67, 0, 9))), .inl v3] σ) ∧
    (¬ iAnd (fx v3.toNat) 63 = 4 →
      (iAnd (fx v3.toNat) 63 = 5 →
      K 391 [] [.inr (.inr (.inl (1002, 7, L))), .inr (.inr (.inl (0, 0, 8))), .inr (.inr (.inl (67, 0, 9))), .inl v3] σ) ∧
    (¬ iAnd (fx v3.toNat) 63 = 5 →
      (iAnd (fx v3.toNat) 63 = 6 →
      K 404 [] [.inr (.inr (.inl (1002, 7, L))), .inr (.inr (.inl (0, 0, 8))), .inr (.inr (.inl (67, 0, 9))), .inl v3] σ) ∧
    (¬ iAnd (fx v3.toNat) 63 = 6 →
      (iAnd (fx v3.toNat) 63 = 7 →
      K 417 [] [.inr (.inr (.inl (1002, 7, L))), .inr (.inr (.inl (0, 0, 8))), .inr (.inr (.inl (67, 0, 9))), .inl v3] σ) ∧
    (¬ iAnd (fx v3.toNat) 63 = 7 →
      (iAnd (fx v3.toNat) 63 = 8 →
      K 450 [] [.inr (.inr (.inl (1002, 7, L))), .inr (.inr (.inl (0, 0, 8))), .inr (.inr (.inl (67, 0, 9))), .inl v3] σ) ∧
    (¬ iAnd (fx v3.toNat) 63 = 8 →
      (iAnd (fx v3.toNat) 63 = 9 →
      K 483 [] [.inr (.inr (.inl (1002, 7, L))), .inr (.inr (.inl (0, 0, 8))), .inr (.inr (.inl (67, 0, 9))), .inl v3] σ) ∧
    (¬ iAnd (fx v3.toNat) 63 = 9 →
      (iAnd (fx v3.toNat) 63 = 10 →
      K 516 [] [.inr (.inr (.inl (1002, 7, L))), .inr (.inr (.inl (0, 0, 8))), .inr (.inr (.inl (67, 0, 9))), .inl v3] σ) ∧
    (¬ iAnd (fx v3.toNat) 63 = 10 →
      (iAnd (fx v3.toNat) 63 = 11 →
      K 549 [] [.inr (.inr (.inl (1002, 7, L))), .inr (.inr (.inl (0, 0, 8))), .inr (.inr (.inl (67, 0, 9))), .inl v3] σ) ∧
    (¬ iAnd (fx v3.toNat) 63 = 11 →
      (iAnd (fx v3.toNat) 63 = 12 →
      K 562 [] [.inr (.inr (.inl (1002, 7, L))), .inr (.inr (.inl (0, 0, 8))), .inr (.inr (.inl (67, 0, 9))), .inl v3] σ) ∧
    (¬ iAnd (fx v3.toNat) 63 = 12 →
      (iAnd (fx v3.toNat) 63 = 13 →
      K 575 [] [.inr (.inr (.inl (1002, 7, L))), .inr (.inr (.inl (0, 0, 8))), .inr (.inr (.inl (67, 0, 9))), .inl v3] σ) ∧
    (¬ iAnd (fx v3.toNat) 63 = 13 →
      (iAnd (fx v3.toNat) 63 = 14 →
      K 588 [] [.inr (.inr (.inl (1002, 7, L))), .inr (.inr (.inl (0, 0, 8))), .inr (.inr (.inl (67, 0, 9))), .inl v3] σ) ∧
    (¬ iAnd (fx v3.toNat) 63 = 14 →
      (iAnd (fx v3.toNat) 63 = 15 →
      K 601 [] [.inr (.inr (.inl (1002, 7, L))), .inr (.inr (.inl (0, 0, 8))), .inr (.inr (.inl (67, 0, 9))), .inl v3] σ) ∧
    (¬ iAnd (fx v3.toNat) 63 = 15 →
      (iAnd (fx v3.toNat) 63 = 16 →
      K 624 [] [.inr (.inr (.inl (1002, 7, L))), .inr (.inr (.inl (0, 0, 8))), .inr (.inr (.inl (67, 0, 9))), .inl v3] σ) ∧
    (¬ iAnd (fx v3.toNat) 63 = 16 →
      (iAnd (fx v3.toNat) 63 = 17 →
      K 657 [] [.inr (.inr (.inl (1002, 7, L))), .inr (.inr (.inl (0, 0, 8))), .inr (.inr (.inl (67, 0, 9))), .inl v3] σ) ∧
    (¬ iAnd (fx v3.toNat) 63 = 17 →
      (iAnd (fx v3.toNat) 63 = 18 →
      K 670 [] [.inr (.inr (.inl (1002, 7, L))), .inr (.inr (.inl (0, 0, 8))), .inr (.inr (.inl (67, 0, 9))), .inl v3] σ) ∧
    (¬ iAnd (fx v3.toNat) 63 = 18 →
      (iAnd (fx v3.toNat) 63 = 19 →
      K 713 [] [.inr (.inr (.inl (1002, 7, L))), .inr (.inr (.inl (0, 0, 8))), .inr (.inr (.inl (67, 0, 9))), .inl v3] σ) ∧
    (¬ iAnd (fx v3.toNat) 63 = 19 →
      (iAnd (fx v3.toNat) 63 = 20 →
      K 736 [] [.inr (.inr (.inl (1002, 7, L))), .inr (.inr (.inl (0, 0, 8))), .inr (.inr (.inl (67, 0, 9))), .inl v3] σ) ∧
    (¬ iAnd (fx v3.toNat) 63 = 20 →
      (iAnd (fx v3.toNat) 63 = 21 →
      K 759 [] [.inr (.inr (.inl (1002, 7, L))), .inr (.inr (.inl (0, 0, 8))), .inr (.inr (.inl (67, 0, 9))), .inl v3] σ) ∧
    (¬ iAnd (fx v3.toNat) 63 = 21 →
      (iAnd (fx v3.toNat) 63 = 22 →
      K 792 [] [.inr (.inr (.inl (1002, 7, L))), .inr (.inr (.inl (0, 0, 8))), .inr (.inr (.inl (67, 0, 9))), .inl v3] σ) ∧
    (¬ iAnd (fx v3.toNat) 63 = 22 →
      (iAnd (fx v3.toNat) 63 = 23 →
      K 805 [] [.inr (.inr (.inl (1002, 7, L))), .inr (.inr (.inl (0, 0, 8))), .inr (.inr (.inl (67, 0, 9))), .inl v3] σ) ∧
    (¬ iAnd (fx v3.toNat) 63 = 23 →
      (iAnd (fx v3.toNat) 63 = 24 →
      K 838 [] [.inr (.inr (.inl (1002, 7, L))), .inr (.inr (.inl (0, 0, 8))), .inr (.inr (.inl (67, 0, 9))), .inl v3] σ) ∧
    (¬ iAnd (fx v3.toNat) 63 = 24 →
      (iAnd (fx v3.toNat) 63 = 25 →
      K 861 [] [.inr (.inr (.inl (1002, 7, L))), .inr (.inr (.inl (0, 0, 8))), .inr (.inr (.inl (67, 0, 9))), .inl v3] σ) ∧
    (¬ iAnd (fx v3.toNat) 63 = 25 →
      (iAnd (fx v3.toNat) 63 = 26 →
      K 874 [] [.inr (.inr (.inl (1002, 7, L))), .inr (.inr (.inl (0, 0, 8))), .inr (.inr (.inl (67, 0, 9))), .inl v3] σ) ∧
    (¬ iAnd (fx v3.toNat) 63 = 26 →
      (iAnd (fx v3.toNat) 63 = 27 →
      K 887 [] [.inr (.inr (.inl (1002, 7, L))), .inr (.inr (.inl (0, 0, 8))), .inr (.inr (.inl (67, 0, 9))), .inl v3] σ) ∧
    (¬ iAnd (fx v3.toNat) 63 = 27 →
      (iAnd (fx v3.toNat) 63 = 28 →
      K 900 [] [.inr (.inr (.inl (1002, 7, L))), .inr (.inr (.inl (0, 0, 8))), .inr (.inr (.inl (67, 0, 9))), .inl v3] σ) ∧
    (¬ iAnd (fx v3.toNat) 63 = 28 →
      (iAnd (fx v3.toNat) 63 = 29 →
      K 923 [] [.inr (.inr (.inl (1002, 7, L))), .inr (.inr (.inl (0, 0, 8))), .inr (.inr (.inl (67, 0, 9))), .inl v3] σ) ∧
    (¬ iAnd (fx v3.toNat) 63 = 29 →
      (iAnd (fx v3.toNat) 63 = 30 →
      K 936 [] [.inr (.inr (.inl (1002, 7, L))), .inr (.inr (.inl (0, 0, 8))), .inr (.inr (.inl (67, 0, 9))), .inl v3] σ) ∧
    (¬ iAnd (fx v3.toNat) 63 = 30 →
      (iAnd (fx v3.toNat) 63 = 31 →
      K 959 [] [.inr (.inr (.inl (1002, 7, L))), .inr (.inr (.inl (0, 0, 8))), .inr (.inr (.inl (67, 0, 9))), .inl v3] σ) ∧
    (¬ iAnd (fx v3.toNat) 63 = 31 →
      (iAnd (fx v3.toNat) 63 = 32 →
      K 992 [] [.inr (.inr (.inl (1002, 7, L))), .inr (.inr (.inl (0, 0, 8))), .inr (.inr (.inl (67, 0, 9))), .inl v3] σ) ∧
    (¬ iAnd (fx v3.toNat) 63 = 32 →
      (iAnd (fx v3.toNat) 63 = 33 →
      K 1025 [] [.inr (.inr (.inl (1002, 7, L))), .inr (.inr (.inl (0, 0, 8))), .inr (.inr (.inl (67, 0, 9))), .inl v3] σ) ∧
    (¬ iAnd (fx v3.toNat) 63 = 33 →
      (iAnd (fx v3.toNat) 63 = 34 →
      K 1048 [] [.inr (.inr (.inl (1002, 7, L))), .inr (.inr (.inl (0, 0, 8))), .inr (.inr (.inl (67, 0, 9))), .inl v3] σ) ∧
    (¬ iAnd (fx v3.toNat) 63 = 34 →
      (iAnd (fx v3.toNat) 63 = 35 →
      K 1081 [] [.inr (.inr (.inl (1002, 7, L))), .inr (.inr (.inl (0, 0, 8))), .inr (.inr (.inl (67, 0, 9))), .inl v3] σ) ∧
    (¬ iAnd (fx v3.toNat) 63 = 35 →
      (iAnd (fx v3.toNat) 63 = 36 →
      K 1094 [] [.inr (.inr (.inl (1002, 7, L))), .inr (.inr (.inl (0, 0, 8))), .inr (.inr (.inl (67, 0, 9))), .inl v3] σ) ∧
    (¬ iAnd (fx v3.toNat) 63 = 36 →
      (iAnd (fx v3.toNat) 63 = 37 →
      K 1107 [] [.inr (.inr (.inl (1002, 7, L))), .inr (.inr (.inl (0, 0, 8))), .inr (.inr (.inl (67, 0, 9))), .inl v3] σ) ∧
    (¬ iAnd (fx v3.toNat) 63 = 37 →
      (iAnd (fx v3.toNat) 63 = 38 →
      K 1130 [] [.inr (.inr (.inl (1002, 7, L))), .inr (.inr (.inl (0, 0, 8))), .inr (.inr (.inl (67, 0, 9))), .inl v3] σ) ∧
    (¬ iAnd (fx v3.toNat) 63 = 38 →
      (iAnd (fx v3.toNat) 63 = 39 →
      K 1189 [] [.inr (.inr (.inl (1002, 7, L))), .inr (.inr (.inl (0, 0, 8))), .inr (.inr (.inl (67, 0, 9))), .inl v3] σ) ∧
    (¬ iAnd (fx v3.toNat) 63 = 39 →
      (iAnd (fx v3.toNat) 63 = 40 →
      K 1212 [] [.inr (.inr (.inl (1002, 7, L))), .inr (.inr (.inl (0, 0, 8))), .inr (.inr (.inl (67, 0, 9))), .inl v3] σ) ∧
    (¬ iAnd (fx v3.toNat) 63 = 40 →
      (iAnd (fx v3.toNat) 63 = 41 →
      K 1235 [] [.inr (.inr (.inl (1002, 7, L))), .inr (.inr (.inl (0, 0, 8))), .inr (.inr (.inl (67, 0, 9))), .inl v3] σ) ∧
    (¬ iAnd (fx v3.toNat) 63 = 41 →
      (iAnd (fx v3.toNat) 63 = 42 →
      K 1258 [] [.inr (.inr (.inl (1002, 7, L))), .inr (.inr (.inl (0, 0, 8))), .inr (.inr (.inl (67, 0, 9))), .inl v3] σ) ∧
    (¬ iAnd (fx v3.toNat) 63 = 42 →
      (iAnd (fx v3.toNat) 63 = 43 →
      K 1291 [] [.inr (.inr (.inl (1002, 7, L))), .inr (.inr (.inl (0, 0, 8))), .inr (.inr (.inl (67, 0, 9))), .inl v3] σ) ∧
    (¬ iAnd (fx v3.toNat) 63 = 43 →
      (iAnd (fx v3.toNat) 63 = 44 →
      K 1324 [] [.inr (.inr (.inl (1002, 7, L))), .inr (.inr (.inl (0, 0, 8))), .inr (.inr (.inl (67, 0, 9))), .inl v3] σ) ∧
    (¬ iAnd (fx v3.toNat) 63 = 44 →
      (iAnd (fx v3.toNat) 63 = 45 →
      K 1347 [] [.inr (.inr (.inl (1002, 7, L))), .inr (.inr (.inl (0, 0, 8))), .inr (.inr (.inl (67, 0, 9))), .inl v3] σ) ∧
    (¬ iAnd (fx v3.toNat) 63 = 45 →
      (iAnd (fx v3.toNat) 63 = 46 →
      K 1370 [] [.inr (.inr (.inl (1002, 7, L))), .inr (.inr (.inl (0, 0, 8))), .inr (.inr (.inl (67, 0, 9))), .inl v3] σ) ∧
    (¬ iAnd (fx v3.toNat) 63 = 46 →
      K 1393 [] [.inr (.inr (.inl (1002, 7, L))), .inr (.inr (.inl (0, 0, 8))), .inr (.inr (.inl (67, 0, 9))), .inl v3] σ))))))))))))))))))))))))))))))))))))))))))))))))
def Law_cs : List Nat := [236, 299, 322, 335, 358, 391, 404, 417, 450, 483, 516, 549, 562, 575, 588, 601, 624, 657, 670, 713, 736, 759, 792, 805, 838, 861, 874, 887, 900, 923, 936, 959, 992, 1025, 1048, 1081, 1094, 1107, 1130, 1189, 1212, 1235, 1258, 1291, 1324, 1347, 1370]
def Law_I (L : Nat) (pc n : Nat) (st ls : List AV) (σ : Hp) : Prop := st = [] ∧ ∃ v3 : Nat, ls = lwL L (v3 : Int) ∧ (∃ d, LI d σ) ∧ L ≤ 3072 ∧ v3 ≤ L + 6 ∧ ((pc = 18 ∧ n = 3 * (L + 10 - v3)) ∨ (pc = 1393 ∧ v3 + 6 ≤ L ∧ n = 3 * (L + 10 - v3) - 2) ∨ (pc ∈ Law_cs ∧ v3 + 6 ≤ L ∧ n = 3 * (L + 10 - v3) - 1))
set_option maxRecDepth 100000 in
theorem Law_p18 {L : Nat} {fx : Nat → Int} {K : lwKT} {v3 : Nat} {σ : Hp} (hL : L ≤ 3072) (hv : v3 ≤ L + 6) (go : v3 + 6 ≤ L → ∀ t ∈ Law_cs, K t [] (lwL L (v3 : Int)) σ) (jn : v3 + 6 ≤ L → K 1393 [] (lwL L (v3 : Int)) σ) : Law_h18 L fx K (v3 : Int) σ := by
  unfold Law_h18
  rw [wr_id (by omega) (by omega)]
  refine ⟨fun h => rfl, fun h => ?_⟩
  have hl : v3 + 6 ≤ L := by omega
  replace go := go hl
  replace jn := jn hl
  refine ⟨⟨by omega, by omega⟩, ?_⟩
  exact ⟨fun _ => go 236 (by decide), fun _ => ⟨fun _ => go 299 (by decide), fun _ => ⟨fun _ => go 322 (by decide), fun _ => ⟨fun _ => go 335 (by decide), fun _ => ⟨fun _ => go 358 (by decide), fun _ => ⟨fun _ => go 391 (by decide), fun _ => ⟨fun _ => go 404 (by decide), fun _ => ⟨fun _ => go 417 (by decide), fun _ => ⟨fun _ => go 450 (by decide), fun _ => ⟨fun _ => go 483 (by decide), fun _ => ⟨fun _ => go 516 (by decide), fun _ => ⟨fun _ => go 549 (by decide), fun _ => ⟨fun _ => go 562 (by decide), fun _ => ⟨fun _ => go 575 (by decide), fun _ => ⟨fun _ => go 588 (by decide), fun _ => ⟨fun _ => go 601 (by decide), fun _ => ⟨fun _ => go 624 (by decide), fun _ => ⟨fun _ => go 657 (by decide), fun _ => ⟨fun _ => go 670 (by decide), fun _ => ⟨fun _ => go 713 (by decide), fun _ => ⟨fun _ => go 736 (by decide), fun _ => ⟨fun _ => go 759 (by decide), fun _ => ⟨fun _ => go 792 (by decide), fun _ => ⟨fun _ => go 805 (by decide), fun _ => ⟨fun _ => go 838 (by decide), fun _ => ⟨fun _ => go 861 (by decide), fun _ => ⟨fun _ => go 874 (by decide), fun _ => ⟨fun _ => go 887 (by decide), fun _ => ⟨fun _ => go 900 (by decide), fun _ => ⟨fun _ => go 923 (by decide), fun _ => ⟨fun _ => go 936 (by decide), fun _ => ⟨fun _ => go 959 (by decide), fun _ => ⟨fun _ => go 992 (by decide), fun _ => ⟨fun _ => go 1025 (by decide), fun _ => ⟨fun _ => go 1048 (by decide), fun _ => ⟨fun _ => go 1081 (by decide), fun _ => ⟨fun _ => go 1094 (by decide), fun _ => ⟨fun _ => go 1107 (by decide), fun _ => ⟨fun _ => go 1130 (by decide), fun _ => ⟨fun _ => go 1189 (by decide), fun _ => ⟨fun _ => go 1212 (by decide), fun _ => ⟨fun _ => go 1235 (by decide), fun _ => ⟨fun _ => go 1258 (by decide), fun _ => ⟨fun _ => go 1291 (by decide), fun _ => ⟨fun _ => go 1324 (by decide), fun _ => ⟨fun _ => go 1347 (by decide), fun _ => ⟨fun _ => go 1370 (by decide), fun _ => jn⟩⟩⟩⟩⟩⟩⟩⟩⟩⟩⟩⟩⟩⟩⟩⟩⟩⟩⟩⟩⟩⟩⟩⟩⟩⟩⟩⟩⟩⟩⟩⟩⟩⟩⟩⟩⟩⟩⟩⟩⟩⟩⟩⟩⟩⟩⟩
def Law_cut (pc : Nat) : Bool := Law_cs.elem pc || (Nat.beq pc 18 || Nat.beq pc 1393)
