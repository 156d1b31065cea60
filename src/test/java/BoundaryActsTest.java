/**
 * The boundary cases of the promises 1 to 13 (what a book is told, texts, history): each method is named after its
 * promise and the sentence that it stands for.
 */
public final class BoundaryActsTest extends Dues {
    /** Values on both sides of 0 to 5 that no chapter has. */
    private static final int[] NO_CHAPTERS = {-1, 6, LEAST, MOST};
    private static final int[] NO_CASES = {-1, 100, LEAST, MOST};

    // ---- promise 1: a new object

    static void promise1ThereIsNoClauseYet() {
        StatuteClauses x = book();
        due("clause(0, 0)", x.clause(0, 0), UNKNOWN);
        due("except(0, 0, 0)", x.except(0, 0, 0), UNKNOWN);
        due("end(0, 1)", x.end(0, 1), UNKNOWN);
        due("silencedBy(0, 0, 0)", x.silencedBy(0, 0, 0), UNKNOWN);
        due("reason(0, 0, 0)", x.reason(0, 0, 0), UNKNOWN);
        due("ifGone(0)", x.ifGone(0), UNKNOWN);
        due("weightiest()", x.weightiest(), NONE);
        due("idle()", x.idle(), 0);
        due("unlike(0, 5)", x.unlike(0, 5), 0);
        due("setDay(999)", x.setDay(999), 0);
        int[] days = {0, 1, 998, 999};
        for (int day : days) {
            due("ruling(0)", x.ruling(0, day, 1), NONE);
            due("ruling(99)", x.ruling(99, day, 2), NONE);
            due("painted(0)", x.painted(0, day), NONE);
            due("painted(99)", x.painted(99, day), NONE);
            due("changesOn(0)", x.changesOn(0, day), NONE);
            due("changesOn(99)", x.changesOn(99, day), NONE);
        }
    }

    static void promise1AllCountsAreNone() {
        StatuteClauses x = book();
        for (int what = 0; what <= 8; what++) {
            due("count(" + what + ")", x.count(what), 0);
        }
    }

    static void promise1TheDay0IsTodayAtFirst() {
        StatuteClauses x = book();
        x.write(0, 0, 3, 3, 1);
        x.write(0, 1, 3, 3, 1);
        due("count(0)", x.count(0), 0);
        due("clause(0, 9)", x.clause(0, 9), 1);
        due("clause(1, 7)", x.clause(1, 7), 0);
    }

    static void promise1AChapterReachesAllCasesAtFirst() {
        for (int chapter = 0; chapter < 6; chapter++) {
            StatuteClauses x = book();
            x.write(chapter, 0, 0, 99, 1);
            due("chapter 0", x.chapter(chapter, 0), 0);
            due("chapter 1", x.chapter(chapter, 1), 99);
            due("case 0", x.ruling(0, 0, 2), chapter);
            due("case 99", x.ruling(99, 0, 2), chapter);
            due("all cases", x.count(3), 100);
        }
    }

    static void promise1AChapterHasTheRankOfItsNumberAtFirst() {
        StatuteClauses x = book();
        for (int chapter = 0; chapter < 6; chapter++) {
            due("rank", x.chapter(chapter, 2), chapter);
            x.write(chapter, 0, 7, 7, 1);
            due("the greater rank rules", x.ruling(7, 0, 2), chapter);
        }
    }

    static void promise1TheTextIsEmptyAtFirst() {
        StatuteClauses x = book();
        due("writeAll()", x.writeAll(), -100);
        due("clearText()", x.clearText(), 0);
        due("type('0')", x.type('0'), 1);
    }

    static void promise1HistoryAndSnapshotAreEmptyAtFirst() {
        StatuteClauses x = book();
        due("undo()", x.undo(), NONE);
        due("restore()", x.restore(), NONE);
        due("undo()", x.undo(), NONE);
    }

    static void promise1ABookIsOfItsOwn() {
        StatuteClauses x = book();
        StatuteClauses y = book();
        Twins.rich(x);
        for (int what = 0; what <= 8; what++) {
            due("count(" + what + ") of another one", y.count(what), 0);
        }
        due("reach of another one", y.chapter(3, 0), 0);
        due("rank of another one", y.chapter(1, 2), 1);
        due("snapshot of another one", y.restore(), NONE);
    }

    // ---- promise 2: setReach

    static void promise2ChapterIs0To5() {
        for (int chapter : NO_CHAPTERS) {
            Twins.same("setReach(" + chapter + ", 1, 2)", Twins::rich, x -> x.setReach(chapter, 1, 2), UNKNOWN);
        }
        for (int chapter = 0; chapter < 6; chapter++) {
            StatuteClauses x = book();
            due("setReach(" + chapter + ", 1, 98)", x.setReach(chapter, 1, 98), 99);
            for (int other = 0; other < 6; other++) {
                due("first case of " + other, x.chapter(other, 0), other == chapter ? 1 : 0);
                due("last case of " + other, x.chapter(other, 1), other == chapter ? 98 : 99);
            }
        }
    }

    static void promise2FromIs0To99() {
        for (int from : NO_CASES) {
            Twins.same("setReach(0, " + from + ", 99)", Twins::rich, x -> x.setReach(0, from, 99), BAD_VALUE);
        }
        Twins.same("setReach(0, 100, 100)", Twins::rich, x -> x.setReach(0, 100, 100), BAD_VALUE);
        Twins.same("setReach(0, -1, -1)", Twins::rich, x -> x.setReach(0, -1, -1), BAD_VALUE);
        Twins.act("setReach(0, 0, 50)", Twins::rewound, x -> x.setReach(0, 0, 50), 99);
        Twins.act("setReach(0, 99, 99)", Twins::rewound, x -> x.setReach(0, 99, 99), 99);
    }

    static void promise2ToIsFromTo99() {
        int[] bad = {9, -1, 100, LEAST, MOST};
        for (int to : bad) {
            Twins.same("setReach(0, 10, " + to + ")", Twins::rich, x -> x.setReach(0, 10, to), BAD_VALUE);
        }
        Twins.same("setReach(0, 99, 98)", Twins::rich, x -> x.setReach(0, 99, 98), BAD_VALUE);
        Twins.same("setReach(0, 1, 0)", Twins::rich, x -> x.setReach(0, 1, 0), BAD_VALUE);
        Twins.act("setReach(0, 10, 10)", Twins::rewound, x -> x.setReach(0, 10, 10), 99);
        Twins.act("setReach(0, 0, 0)", Twins::rewound, x -> x.setReach(0, 0, 0), 99);
        Twins.act("setReach(0, 10, 99)", Twins::rewound, x -> x.setReach(0, 10, 99), 99);
    }

    static void promise2TheChapterIsCheckedFirst() {
        due("setReach(6, -1, 100)", book().setReach(6, -1, 100), UNKNOWN);
        due("setReach(-1, 0, 99)", book().setReach(-1, 0, 99), UNKNOWN);
        due("setReach(5, -1, 100)", book().setReach(5, -1, 100), BAD_VALUE);
    }

    static void promise2ItAnswersThePreviousCases() {
        StatuteClauses x = book();
        int[][] calls = {{0, 0, 99}, {99, 99, 0}, {0, 98, 9999}, {1, 98, 98}, {1, 99, 198}, {0, 99, 199}};
        for (int[] call : calls) {
            due("setReach(2, " + call[0] + ", " + call[1] + ")", x.setReach(2, call[0], call[1]), call[2]);
        }
    }

    static void promise2NoneIfBothAreSoAlready() {
        Twins.same("setReach(0, 0, 99), as at first", Twins::rich, x -> x.setReach(0, 0, 99), NONE);
        Twins.same("setReach(3, 5, 94)", Twins::rich, x -> x.setReach(3, 5, 94), NONE);
        Twins.act("the first one alone is so", Twins::rewound, x -> x.setReach(3, 5, 93), 594);
        Twins.act("the last one alone is so", Twins::rewound, x -> x.setReach(3, 6, 94), 594);
    }

    static void promise2AChapterReachesFromTheFirstCaseToTheLast() {
        StatuteClauses x = book();
        x.write(2, 0, 0, 99, 1);
        x.setReach(2, 10, 20);
        int[] cases = {0, 9, 10, 20, 21, 99};
        int[] due = {NONE, NONE, 0, 0, NONE, NONE};
        for (int i = 0; i < cases.length; i++) {
            due("ruling(" + cases[i] + ")", x.ruling(cases[i], 0, 1), due[i]);
            due("painted(" + cases[i] + ")", x.painted(cases[i], 0), due[i]);
            due("reason(" + cases[i] + ")", x.reason(0, cases[i], 0), due[i] == 0 ? 0 : 3);
        }
        x.setReach(2, 15, 15);
        due("count(3) of one case", x.count(3), 1);
        due("ruling(15)", x.ruling(15, 0, 1), 0);
    }

    static void promise2AClauseThatIsNotReachedSilencesNone() {
        StatuteClauses x = book();
        x.write(1, 0, 0, 99, 1);
        x.write(1, 0, 0, 99, 0);
        x.setReach(1, 5, 9);
        int[] cases = {4, 5, 9, 10};
        int[] silencers = {NONE, 1, 1, NONE};
        for (int i = 0; i < cases.length; i++) {
            due("silencedBy(0, " + cases[i] + ", 0)", x.silencedBy(0, cases[i], 0), silencers[i]);
        }
    }

    // ---- promise 3: exchange

    static void promise3BothChaptersAre0To5() {
        for (int chapter : NO_CHAPTERS) {
            Twins.same("exchange(" + chapter + ", 0)", Twins::rich, x -> x.exchange(chapter, 0), UNKNOWN);
            Twins.same("exchange(0, " + chapter + ")", Twins::rich, x -> x.exchange(0, chapter), UNKNOWN);
            due("both the same", book().exchange(chapter, chapter), UNKNOWN);
        }
        Twins.act("exchange(0, 5)", Twins::rewound, x -> x.exchange(0, 5), 5);
        Twins.act("exchange(5, 0)", Twins::rewound, x -> x.exchange(5, 0), 0);
    }

    static void promise3NoneIfBothAreTheSame() {
        for (int chapter = 0; chapter < 6; chapter++) {
            int one = chapter;
            Twins.same("exchange(" + one + ", " + one + ")", Twins::rich, x -> x.exchange(one, one), NONE);
        }
    }

    static void promise3ItAnswersTheRankThatTheFirstOneHasThen() {
        StatuteClauses x = book();
        int[][] calls = {{0, 5, 5}, {0, 5, 0}, {0, 5, 5}, {5, 1, 1}, {1, 0, 5}, {2, 3, 3}, {4, 2, 3}};
        for (int[] call : calls) {
            due("exchange(" + call[0] + ", " + call[1] + ")", x.exchange(call[0], call[1]), call[2]);
            due("chapter(.., 2)", x.chapter(call[0], 2), call[2]);
        }
    }

    static void promise3NoTwoChaptersHaveTheSameRank() {
        for (int one = 0; one < 6; one++) {
            for (int two = 0; two < 6; two++) {
                StatuteClauses x = book();
                x.exchange(3, 4);
                x.exchange(one, two);
                int ranks = 0;
                for (int chapter = 0; chapter < 6; chapter++) {
                    ranks |= 1 << x.chapter(chapter, 2);
                }
                due("ranks behind exchange(" + one + ", " + two + ")", ranks, 63);
            }
        }
    }

    static void promise3TheGreaterRankHasTheLastWord() {
        for (int one = 0; one < 6; one++) {
            for (int two = 0; two < 6; two++) {
                if (one != two) {
                    StatuteClauses x = book();
                    x.write(one, 5, 50, 50, 1);
                    x.write(two, 0, 50, 50, 1);
                    due("ruling of " + one + " and " + two, x.ruling(50, 5, 1), one > two ? 0 : 1);
                    x.exchange(one, two);
                    due("ruling behind exchange()", x.ruling(50, 5, 1), one > two ? 1 : 0);
                    due("painted() behind exchange()", x.painted(50, 5), one > two ? 1 : 0);
                }
            }
        }
    }

    // ---- promise 4: write

    static void promise4ChapterIs0To5() {
        for (int chapter : NO_CHAPTERS) {
            Twins.same("write(" + chapter + ", ..)", Twins::rich, x -> x.write(chapter, 0, 0, 0, 0), UNKNOWN);
        }
        Twins.act("write(0, ..)", Twins::rewound, x -> x.write(0, 5, 10, 20, 3), 3);
        Twins.act("write(5, ..)", Twins::rewound, x -> x.write(5, 5, 10, 20, 3), 3);
    }

    static void promise4DateIs0To999() {
        int[] bad = {-1, 1000, LEAST, MOST};
        for (int date : bad) {
            Twins.same("date " + date, Twins::rich, x -> x.write(0, date, 0, 0, 1), BAD_VALUE);
        }
        StatuteClauses x = book();
        due("date 0", x.write(0, 0, 5, 5, 1), 0);
        due("date 999", x.write(1, 999, 5, 5, 1), 1);
        due("clause(0, 1)", x.clause(0, 1), 0);
        due("clause(1, 1)", x.clause(1, 1), 999);
        due("in force on day 0", x.ruling(5, 0, 1), 0);
        due("not yet on 998", x.ruling(5, 998, 1), 0);
        due("in force on 999", x.ruling(5, 999, 1), 1);
    }

    static void promise4FromIs0To99() {
        for (int from : NO_CASES) {
            Twins.same("from " + from, Twins::rich, x -> x.write(0, 0, from, 99, 1), BAD_VALUE);
        }
        due("from and to 100", book().write(0, 0, 100, 100, 1), BAD_VALUE);
        due("from and to -1", book().write(0, 0, -1, -1, 1), BAD_VALUE);
        StatuteClauses x = book();
        due("from 0", x.write(0, 0, 0, 3, 1), 0);
        due("from 99", x.write(0, 0, 99, 99, 1), 1);
        due("ruling(0)", x.ruling(0, 0, 1), 0);
        due("ruling(99)", x.ruling(99, 0, 1), 1);
        due("count(3)", x.count(3), 5);
    }

    static void promise4ToIsFromTo99() {
        int[] bad = {39, -1, 100, LEAST, MOST};
        for (int to : bad) {
            Twins.same("to " + to, Twins::rich, x -> x.write(0, 0, 40, to, 1), BAD_VALUE);
        }
        StatuteClauses x = book();
        due("to the same one", x.write(0, 0, 40, 40, 1), 0);
        due("cases of it", x.clause(0, 9), 1);
        due("to 99", x.write(0, 0, 40, 99, 1), 1);
        due("cases of it", x.clause(1, 9), 60);
        due("0 to 0", x.write(1, 0, 0, 0, 1), 2);
        due("cases of it", x.clause(2, 9), 1);
    }

    static void promise4VerdictIs0To9() {
        int[] bad = {-1, 10, LEAST, MOST};
        for (int verdict : bad) {
            Twins.same("verdict " + verdict, Twins::rich, x -> x.write(0, 0, 0, 0, verdict), BAD_VALUE);
        }
        StatuteClauses x = book();
        for (int verdict = 0; verdict <= 9; verdict++) {
            due("verdict " + verdict, x.write(0, 0, verdict, verdict, verdict), verdict);
            due("clause(.., 5)", x.clause(verdict, 5), verdict);
            due("ruling", x.ruling(verdict, 0, 0), verdict == 0 ? NONE : verdict);
        }
    }

    static void promise4FullIf30WereWritten() {
        StatuteClauses x = book();
        for (int k = 0; k < 29; k++) {
            x.write(0, 0, 0, 0, 1);
        }
        due("the 30th", x.write(5, 999, 0, 99, 9), 29);
        due("clause(29, 1)", x.clause(29, 1), 999);
        due("clause(30, 1)", x.clause(30, 1), UNKNOWN);
        Twins.same("the 31st", Twins::full, y -> y.write(0, 0, 0, 0, 1), FULL);
        due("the 31st, once more", x.write(0, 0, 0, 0, 0), FULL);
        x.end(0, 1);
        x.setDay(1);
        due("an ended clause gives no room", x.write(0, 0, 0, 0, 1), FULL);
    }

    static void promise4UndoAndRestoreGiveRoomBack() {
        StatuteClauses x = book();
        x.keep();
        Twins.full(x);
        due("undo()", x.undo(), 3);
        due("room for one", x.write(0, 0, 0, 0, 1), 29);
        due("and for no more", x.write(0, 0, 0, 0, 1), FULL);
        due("restore()", x.restore(), 0);
        due("room for all", x.write(0, 0, 0, 0, 1), 0);
    }

    static void promise4TheOrderOfTheChecks() {
        StatuteClauses x = book();
        Twins.full(x);
        due("chapter first", x.write(6, 1000, 100, 99, 10), UNKNOWN);
        due("date ahead of room", x.write(0, 1000, 0, 0, 1), BAD_VALUE);
        due("from ahead of room", x.write(0, 0, -1, 0, 1), BAD_VALUE);
        due("to ahead of room", x.write(0, 0, 5, 4, 1), BAD_VALUE);
        due("verdict ahead of room", x.write(0, 0, 0, 0, 10), BAD_VALUE);
        due("room last", x.write(0, 0, 0, 0, 1), FULL);
    }

    static void promise4AClauseNeverEndsAtFirst() {
        StatuteClauses x = book();
        x.write(0, 999, 0, 99, 1);
        due("clause(0, 2)", x.clause(0, 2), 1000);
        due("clause(0, 6)", x.clause(0, 6), 0);
        due("in force on 999", x.ruling(50, 999, 1), 0);
    }

    // ---- promise 5: except

    static void promise5TheClauseMustBeThere() {
        int[] unknown = {-1, 4, 30, LEAST, MOST};
        for (int clause : unknown) {
            Twins.same("except(" + clause + ", 1, 1)", Twins::rich, x -> x.except(clause, 1, 1), UNKNOWN);
        }
        StatuteClauses x = book();
        Twins.full(x);
        due("except(29, 0, 0)", x.except(29, 0, 0), 1);
        due("except(30, 0, 0)", x.except(30, 0, 0), UNKNOWN);
        due("except(0, 0, 0)", x.except(0, 0, 0), 1);
    }

    static void promise5AClauseThatWasUndoneIsNotThere() {
        StatuteClauses x = book();
        x.write(0, 0, 0, 9, 1);
        x.undo();
        due("except(0, 1, 1)", x.except(0, 1, 1), UNKNOWN);
    }

    static void promise5FromIs0To99() {
        for (int from : NO_CASES) {
            Twins.same("except(0, " + from + ", 99)", Twins::rich, x -> x.except(0, from, 99), BAD_VALUE);
        }
        due("100 to 100", rich().except(0, 100, 100), BAD_VALUE);
        due("-1 to -1", rich().except(0, -1, -1), BAD_VALUE);
        Twins.act("except(0, 0, 5)", Twins::rewound, x -> x.except(0, 0, 5), 1);
        Twins.act("except(0, 99, 99)", Twins::rewound, x -> x.except(0, 99, 99), 1);
    }

    static void promise5ToIsFromTo99() {
        int[] bad = {9, -1, 100, LEAST, MOST};
        for (int to : bad) {
            Twins.same("except(0, 10, " + to + ")", Twins::rich, x -> x.except(0, 10, to), BAD_VALUE);
        }
        Twins.act("except(0, 10, 10)", Twins::rewound, x -> x.except(0, 10, 10), 1);
        Twins.act("except(0, 10, 99)", Twins::rewound, x -> x.except(0, 10, 99), 1);
        Twins.act("except(0, 0, 0)", Twins::rewound, x -> x.except(0, 0, 0), 1);
    }

    static void promise5AtMost3Exceptions() {
        Twins.act("a second one", Twins::rewound, x -> x.except(2, 0, 0), 2);
        Twins.same("a fourth one", Twins::rich, x -> x.except(1, 0, 0), FULL);
        StatuteClauses x = book();
        x.write(0, 0, 0, 99, 1);
        x.write(0, 0, 0, 99, 1);
        for (int k = 1; k <= 3; k++) {
            due("except(0, ..) number " + k, x.except(0, k, k), k);
        }
        due("a fourth one", x.except(0, 4, 4), FULL);
        due("a fourth one that is there already", x.except(0, 1, 1), FULL);
        due("another clause has room", x.except(1, 4, 4), 1);
        due("clause(0, 6)", x.clause(0, 6), 3);
    }

    static void promise5ExceptionsOfATextCount() {
        StatuteClauses x = book();
        written(x, "0@0:0-9=1!1-1,2-2,3-3;0@0:0-9=1!1-1,2-2");
        due("three are there", x.except(0, 5, 5), FULL);
        due("two are there", x.except(1, 5, 5), 3);
        due("three are there now", x.except(1, 6, 6), FULL);
    }

    static void promise5TheOrderOfTheChecks() {
        due("clause first", rich().except(4, 5, 4), UNKNOWN);
        due("values ahead of room", rich().except(1, 5, 4), BAD_VALUE);
        due("values ahead of room, from", rich().except(1, -1, 4), BAD_VALUE);
        due("room last", rich().except(1, 4, 4), FULL);
    }

    static void promise5AnExceptionIsFromTheFirstCaseToTheLast() {
        StatuteClauses x = book();
        x.write(0, 0, 10, 30, 1);
        x.except(0, 15, 17);
        x.except(0, 17, 20);
        x.except(0, 30, 99);
        int[] cases = {9, 10, 14, 15, 16, 17, 20, 21, 29, 30, 31, 99};
        int[] reasons = {4, 0, 0, 5, 5, 5, 5, 0, 0, 5, 4, 4};
        for (int i = 0; i < cases.length; i++) {
            due("reason(0, " + cases[i] + ", 0)", x.reason(0, cases[i], 0), reasons[i]);
            due("ruling(" + cases[i] + ")", x.ruling(cases[i], 0, 1), reasons[i] == 0 ? 0 : NONE);
            due("painted(" + cases[i] + ")", x.painted(cases[i], 0), reasons[i] == 0 ? 0 : NONE);
        }
    }

    static void promise5ASpanMayBeExceptedWholly() {
        StatuteClauses x = book();
        x.write(0, 0, 10, 30, 1);
        due("except(0, 0, 99)", x.except(0, 0, 99), 1);
        due("the same again", x.except(0, 0, 99), 2);
        due("beside the span", x.except(0, 40, 41), 3);
        due("count(3)", x.count(3), 0);
        due("count(2)", x.count(2), 1);
        due("idle()", x.idle(), 1);
    }

    // ---- promise 6: end

    static void promise6TheClauseMustBeThere() {
        int[] unknown = {-1, 4, 30, LEAST, MOST};
        for (int clause : unknown) {
            Twins.same("end(" + clause + ", 500)", Twins::rich, x -> x.end(clause, 500), UNKNOWN);
        }
        StatuteClauses x = book();
        Twins.full(x);
        due("end(29, 500)", x.end(29, 500), 1000);
        due("end(30, 500)", x.end(30, 500), UNKNOWN);
    }

    static void promise6DayIs1To1000() {
        int[] bad = {0, -1, 1001, LEAST, MOST};
        for (int day : bad) {
            Twins.same("end(0, " + day + ")", Twins::rich, x -> x.end(0, day), BAD_VALUE);
        }
        StatuteClauses x = book();
        x.write(0, 0, 0, 9, 1);
        due("end(0, 1)", x.end(0, 1), 1000);
        due("on day 0", x.ruling(5, 0, 1), 0);
        due("on day 1", x.ruling(5, 1, 1), NONE);
        due("end(0, 999)", x.end(0, 999), 1);
        due("on day 998", x.ruling(5, 998, 1), 0);
        due("on day 999", x.ruling(5, 999, 1), NONE);
        due("end(0, 1000)", x.end(0, 1000), 999);
        due("never", x.ruling(5, 999, 1), 0);
    }

    static void promise6NotPossibleIfItIsItsDateOrEarlier() {
        Twins.same("the day ahead of the date", Twins::rich, x -> x.end(1, 19), NOT_POSSIBLE);
        Twins.same("the date", Twins::rich, x -> x.end(1, 20), NOT_POSSIBLE);
        Twins.same("day 1", Twins::rich, x -> x.end(1, 1), NOT_POSSIBLE);
        Twins.act("the day behind the date", Twins::rewound, x -> x.end(1, 21), 1000);
        StatuteClauses x = book();
        x.write(0, 1, 0, 0, 1);
        x.write(0, 998, 0, 0, 1);
        x.write(0, 999, 0, 0, 1);
        due("date 1, end 1", x.end(0, 1), NOT_POSSIBLE);
        due("date 1, end 2", x.end(0, 2), 1000);
        due("date 998, end 998", x.end(1, 998), NOT_POSSIBLE);
        due("date 998, end 999", x.end(1, 999), 1000);
        due("date 999, end 999", x.end(2, 999), NOT_POSSIBLE);
        due("date 999, end 1000", x.end(2, 1000), NONE);
    }

    static void promise6NoneIfItIsSoAlready() {
        Twins.same("it never ends", Twins::rich, x -> x.end(1, 1000), NONE);
        Twins.same("it ends on 50", Twins::rich, x -> x.end(0, 50), NONE);
        Twins.act("it shall end on 49", Twins::rewound, x -> x.end(0, 49), 50);
        Twins.act("it shall end on 51", Twins::rewound, x -> x.end(0, 51), 50);
        Twins.act("it shall never end", Twins::rewound, x -> x.end(0, 1000), 50);
    }

    static void promise6TheOrderOfTheChecks() {
        due("clause first", rich().end(4, 0), UNKNOWN);
        due("day 0 ahead of the date", rich().end(1, 0), BAD_VALUE);
        due("day -5 ahead of the date", rich().end(1, -5), BAD_VALUE);
        due("day 1001", rich().end(1, 1001), BAD_VALUE);
    }

    // ---- promise 7: setDay

    static void promise7DayIs0To999() {
        int[] bad = {-1, 1000, LEAST, MOST};
        for (int day : bad) {
            Twins.same("setDay(" + day + ")", Twins::rich, x -> x.setDay(day), BAD_VALUE);
        }
        StatuteClauses x = book();
        due("setDay(999)", x.setDay(999), 0);
        due("count(0)", x.count(0), 999);
        due("setDay(0)", x.setDay(0), 0);
        due("count(0)", x.count(0), 0);
    }

    static void promise7NoneIfItIsSoAlready() {
        due("setDay(0) at first", book().setDay(0), NONE);
        Twins.same("setDay(20)", Twins::rich, x -> x.setDay(20), NONE);
        Twins.act("setDay(999)", Twins::rewound, x -> x.setDay(999), 79);
    }

    static void promise7NoCaseChangedIsStillAnAct() {
        Twins.act("setDay(1)", x -> { }, x -> x.setDay(1), 0);
    }

    static void promise7ItAnswersHowManyRulingsAreOthers() {
        StatuteClauses x = book();
        x.write(3, 5, 0, 99, 4);
        due("no case", x.setDay(4), 0);
        due("all cases, from none", x.setDay(5), 100);
        x.write(3, 6, 99, 99, 4);
        x.write(3, 7, 0, 0, 4);
        due("one case, the last, of a like verdict", x.setDay(6), 1);
        due("one case, the first", x.setDay(7), 1);
        x.write(3, 8, 0, 49, 0);
        due("half of them, to none", x.setDay(8), 50);
        due("half of them, from none", x.setDay(7), 50);
        due("all cases, to none", x.setDay(0), 100);
    }

    static void promise7ARulingUnderAGreaterRankDoesNotCount() {
        StatuteClauses x = book();
        x.write(5, 0, 0, 98, 1);
        x.write(4, 1, 0, 99, 2);
        due("one case", x.setDay(1), 1);
    }

    static void promise7AnEndOnThatDayCounts() {
        StatuteClauses x = book();
        x.write(0, 0, 10, 19, 1);
        x.end(0, 10);
        due("the day ahead of it", x.setDay(9), 0);
        due("the day of it", x.setDay(10), 10);
        due("the day behind it", x.setDay(11), 0);
    }

    // ---- promise 8: type

    static void promise8TheTextHasAtMost80Characters() {
        StatuteClauses x = book();
        for (int length = 1; length <= 80; length++) {
            due("type number " + length, x.type('0'), length);
        }
        due("the 81st", x.type('0'), FULL);
        due("the 81st again", x.type(';'), FULL);
        due("count(8)", x.count(8), 80);
        Twins.same("the 81st", BoundaryActsTest::fullText, y -> y.type(';'), FULL);
        Twins.same("the 81st, a zero", BoundaryActsTest::fullText, y -> y.type('0'), FULL);
    }

    static void promise8AnyCharacterMayBeTyped() {
        int[] characters = {0, 1, 9, 10, 13, 32, 47, 48, 57, 58, 127, 128, 255, 256, 32767, 32768, 55296, 65534, 65535};
        StatuteClauses x = book();
        for (int i = 0; i < characters.length; i++) {
            due("type((char) " + characters[i] + ")", x.type((char) characters[i]), i + 1);
        }
        due("count(8)", x.count(8), characters.length);
    }

    static void promise8ItIsNoAct() {
        StatuteClauses x = book();
        x.type('0');
        history(x, 0);
        due("undo()", x.undo(), NONE);
        due("count(8)", x.count(8), 1);
    }

    static void promise8ItTypesBehindTheText() {
        StatuteClauses x = book();
        String text = "1@0:2-3=4";
        for (int i = 0; i < text.length(); i++) {
            x.type(text.charAt(i));
            due("writeAll() of " + (i + 1), x.writeAll(), i + 1 < text.length() ? -101 - i : 1);
        }
        due("clause(0, 0)", x.clause(0, 0), 1);
        due("clause(0, 3)", x.clause(0, 3), 2);
        due("clause(0, 4)", x.clause(0, 4), 3);
        due("clause(0, 5)", x.clause(0, 5), 4);
    }

    // ---- promise 9: clearText

    static void promise9ItAnswersTheLengthThatItHad() {
        StatuteClauses x = book();
        due("the empty text", x.clearText(), 0);
        x.type('0');
        due("one character", x.clearText(), 1);
        due("the empty text again", x.clearText(), 0);
        fullText(x);
        due("80 characters", x.clearText(), 80);
        due("count(8)", x.count(8), 0);
        due("there is room again", x.type('0'), 1);
    }

    static void promise9TheTextIsEmptyThen() {
        StatuteClauses x = book();
        typeAll(x, "0@0:0-0=1");
        x.clearText();
        due("writeAll()", x.writeAll(), -100);
        due("count(1)", x.count(1), 0);
    }

    static void promise9ItIsNoAct() {
        StatuteClauses x = book();
        typeAll(x, "0@0:0-0=1");
        x.clearText();
        history(x, 0);
        due("undo()", x.undo(), NONE);
        due("undo() brings no text back", x.count(8), 0);
        Twins.same("clearText() of an empty text", y -> y.setDay(3), StatuteClauses::clearText, 0);
    }

    static void promise9TypingAndClearingTouchNothingElse() {
        Twins.compare("a text that is typed and cleared", x -> { Twins.rich(x); fullText(x); x.clearText(); },
            x -> { Twins.rich(x); x.clearText(); });
        Twins.compare("a text that is typed again", x -> { Twins.rich(x); fullText(x); typeAll(x, "0@0:0-0=1"); },
            x -> { Twins.rich(x); typeAll(x, "0@0:0-0=1"); });
    }

    // ---- promise 11: undo

    static void promise11NoneIfTheHistoryIsEmpty() {
        Twins.same("undo() at first", x -> { }, StatuteClauses::undo, NONE);
        Twins.same("undo() behind the last", x -> { Twins.rewound(x); x.undo(); x.undo(); }, StatuteClauses::undo, NONE);
    }

    static void promise11AtMost4StatesAreKept() {
        for (int acts = 0; acts <= 6; acts++) {
            StatuteClauses x = book();
            for (int day = 1; day <= acts; day++) {
                x.setDay(day);
                history(x, Math.min(day, 4));
            }
            int states = Math.min(acts, 4);
            for (int left = states - 1; left >= 0; left--) {
                due("undo()", x.undo(), left);
                due("today", x.count(0), acts - states + left);
            }
            due("undo() of none", x.undo(), NONE);
            due("today", x.count(0), acts - states);
        }
    }

    static void promise11RoomForFourAgainBehindUndo() {
        StatuteClauses x = book();
        for (int day = 1; day <= 5; day++) {
            x.setDay(day);
        }
        x.undo();
        x.undo();
        x.setDay(100);
        history(x, 3);
        x.setDay(101);
        history(x, 4);
        x.setDay(102);
        history(x, 4);
        int[] days = {101, 100, 3, 2};
        for (int i = 0; i < 4; i++) {
            due("undo()", x.undo(), 3 - i);
            due("today", x.count(0), days[i]);
        }
        due("undo()", x.undo(), NONE);
    }

    static void promise11ItRestoresTheWholeState() {
        Twins.act("write()", Twins::rewound, x -> x.write(5, 0, 0, 99, 9), 3);
        Twins.act("except()", Twins::rewound, x -> x.except(2, 0, 50), 2);
        Twins.act("end()", Twins::rewound, x -> x.end(2, 999), 1000);
        Twins.act("setReach()", Twins::rewound, x -> x.setReach(1, 15, 16), 99);
        Twins.act("exchange()", Twins::rewound, x -> x.exchange(1, 0), 0);
        Twins.act("writeAll()", Twins::rewound, StatuteClauses::writeAll, 2);
        Twins.act("restore()", Twins::rewound, StatuteClauses::restore, 2);
    }

    static void promise11ItLeavesTheTextAndTheSnapshot() {
        StatuteClauses x = book();
        x.setDay(1);
        x.write(0, 0, 0, 0, 1);
        x.keep();
        typeAll(x, "0@0:0-0=1");
        x.undo();
        x.undo();
        due("count(8)", x.count(8), 9);
        due("restore()", x.restore(), 1);
        due("today of the snapshot", x.count(0), 1);
        due("writeAll()", x.writeAll(), 1);
    }

    static void promise11ItIsNotRecordedItself() {
        StatuteClauses x = book();
        x.setDay(1);
        x.setDay(2);
        due("undo()", x.undo(), 1);
        history(x, 1);
        due("undo()", x.undo(), 0);
        due("today", x.count(0), 0);
    }

    // ---- promise 12: keep

    static void promise12ItAnswersHowManyClausesThereAre() {
        due("keep() at first", book().keep(), 0);
        due("keep() of four", rich().keep(), 4);
        StatuteClauses x = book();
        Twins.full(x);
        due("keep() of 30", x.keep(), 30);
        x.undo();
        due("keep() of 29", x.keep(), 29);
    }

    static void promise12ItIsNoAct() {
        StatuteClauses x = book();
        x.keep();
        history(x, 0);
        due("undo()", x.undo(), NONE);
        Twins.same("keep() of what was kept", y -> { Twins.rewound(y); y.keep(); }, StatuteClauses::keep, 3);
    }

    static void promise12ThereIsOneSnapshot() {
        StatuteClauses x = book();
        x.keep();
        x.write(0, 0, 0, 0, 1);
        x.keep();
        x.write(0, 0, 0, 0, 1);
        due("restore()", x.restore(), 1);
        due("restore() again", x.restore(), 1);
        due("count(1)", x.count(1), 1);
    }

    static void promise12ActsDoNotTouchTheSnapshot() {
        StatuteClauses x = book();
        x.write(0, 5, 0, 99, 1);
        x.keep();
        x.except(0, 0, 98);
        x.end(0, 6);
        x.setReach(0, 3, 4);
        x.exchange(0, 5);
        x.setDay(5);
        x.write(0, 5, 0, 99, 2);
        x.restore();
        int[] told = {0, 5, 1000, 0, 99, 1, 0, 0, 0, 0};
        for (int what = 0; what < told.length; what++) {
            due("clause(0, " + what + ")", x.clause(0, what), told[what]);
        }
        due("chapter(0, 0)", x.chapter(0, 0), 0);
        due("chapter(0, 1)", x.chapter(0, 1), 99);
        due("chapter(0, 2)", x.chapter(0, 2), 0);
        due("count(0)", x.count(0), 0);
        due("count(1)", x.count(1), 1);
        due("ruling(50, 5)", x.ruling(50, 5, 1), 0);
    }

    // ---- promise 13: restore

    static void promise13NoneIfThereIsNoSnapshot() {
        Twins.same("restore() at first", x -> { }, StatuteClauses::restore, NONE);
        Twins.same("restore() behind acts", x -> { x.write(0, 0, 0, 0, 1); x.setDay(2); }, StatuteClauses::restore, NONE);
    }

    static void promise13ASnapshotOfAnEmptyBookIsOne() {
        StatuteClauses x = book();
        x.keep();
        due("restore()", x.restore(), 0);
        history(x, 1);
        x.write(0, 0, 0, 0, 1);
        due("restore()", x.restore(), 0);
        due("clause(0, 0)", x.clause(0, 0), UNKNOWN);
    }

    static void promise13ItIsAnActAlsoIfNothingChanges() {
        Twins.act("restore()", x -> { x.setDay(3); x.keep(); }, StatuteClauses::restore, 0);
    }

    static void promise13TheSnapshotStays() {
        StatuteClauses x = book();
        Twins.full(x);
        x.keep();
        for (int i = 0; i < 6; i++) {
            x.setReach(0, i, i);
            due("restore() number " + i, x.restore(), 30);
            due("chapter(0, 1)", x.chapter(0, 1), 99);
            history(x, 4);
        }
    }

    static void promise13ItLeavesTheTextAndTheHistory() {
        StatuteClauses x = book();
        x.keep();
        x.setDay(1);
        x.setDay(2);
        typeAll(x, "0@0:0-0=1");
        x.restore();
        history(x, 3);
        due("count(8)", x.count(8), 9);
        due("today", x.count(0), 0);
        due("undo() of restore()", x.undo(), 2);
        due("today", x.count(0), 2);
        due("undo()", x.undo(), 1);
        due("today", x.count(0), 1);
        due("a restore behind them", x.restore(), 0);
        due("today", x.count(0), 0);
    }

    /** Two clauses with one number and nothing in common but it: each must come back whole in place of the other. */
    static void promise13WholeClausesComeBack() {
        int[] numbers = {0, 1, 15, 28, 29};
        for (int number : numbers) {
            StatuteClauses x = book();
            for (int k = 0; k < number; k++) {
                x.write(5, 900, 0, 0, 0);
            }
            x.write(2, 7, 10, 40, 6);
            x.except(number, 12, 13);
            x.except(number, 20, 25);
            x.except(number, 39, 99);
            x.keep();
            for (int i = 0; i < 4; i++) {
                x.undo();
            }
            x.write(3, 8, 5, 90, 1);
            x.except(number, 30, 31);
            x.end(number, 70);
            due("restore()", x.restore(), number + 1);
            clauseDue(x, number, new int[] {2, 7, 1000, 10, 40, 6, 3}, new int[] {12, 13, 20, 25, 39, 40});
            due("undo()", x.undo(), 3);
            clauseDue(x, number, new int[] {3, 8, 70, 5, 90, 1, 1}, new int[] {30, 31});
        }
    }

    private static void clauseDue(StatuteClauses x, int clause, int[] told, int[] excepted) {
        for (int what = 0; what < told.length; what++) {
            due("clause(" + clause + ", " + what + ")", x.clause(clause, what), told[what]);
        }
        for (int number = told[3]; number <= told[4]; number++) {
            boolean is = false;
            for (int i = 0; i < excepted.length; i += 2) {
                is |= excepted[i] <= number && number <= excepted[i + 1];
            }
            due("reason(" + clause + ", " + number + ", 8)", x.reason(clause, number, 8), is ? 5 : 0);
        }
    }

    private static StatuteClauses rich() {
        StatuteClauses x = book();
        Twins.rich(x);
        return x;
    }

    /** 80 characters that may be written: eight clauses. */
    private static void fullText(StatuteClauses x) {
        typeAll(x, "0@0:0-0=1;1@0:0-0=2;2@0:0-0=3;3@0:0-0=4;4@0:0-0=5;5@0:0-0=6;0@0:1-1=7;1@0:1-10=8");
    }

    public static void main(String[] args) {
        runPromises(BoundaryActsTest.class, 1, 9);
        runPromises(BoundaryActsTest.class, 11, 13);
        finish();
    }
}
