/**
 * The boundary cases of the promises 14 to 25 (what is told): each method is named after its promise and the sentence
 * that it stands for.
 */
public final class BoundaryToldTest extends Dues {
    private static final int[] NO_CHAPTERS = {-1, 6, LEAST, MOST};
    private static final int[] NO_CASES = {-1, 100, LEAST, MOST};
    private static final int[] NO_DAYS = {-1, 1000, LEAST, MOST};
    /** The rich book has four clauses. */
    private static final int[] NO_CLAUSES = {-1, 4, 30, LEAST, MOST};

    private static StatuteClauses rich() {
        StatuteClauses x = book();
        Twins.rich(x);
        return x;
    }

    private static StatuteClauses full() {
        StatuteClauses x = book();
        Twins.full(x);
        return x;
    }

    /** All verdicts 0, in chapter 0, for all cases. */
    private static StatuteClauses silent(int clauses) {
        StatuteClauses x = book();
        for (int k = 0; k < clauses; k++) {
            x.write(0, 0, 0, 99, 0);
        }
        return x;
    }

    // ---- promise 14: chapter

    static void promise14ChapterIs0To5() {
        for (int chapter : NO_CHAPTERS) {
            for (int what = -1; what <= 6; what++) {
                due("chapter(" + chapter + ", " + what + ")", rich().chapter(chapter, what), UNKNOWN);
            }
            Twins.same("chapter(" + chapter + ", 0)", Twins::rich, x -> x.chapter(chapter, 0), UNKNOWN);
        }
        due("chapter(5, 2)", book().chapter(5, 2), 5);
        due("chapter(0, 2)", book().chapter(0, 2), 0);
    }

    static void promise14WhatIs0To5() {
        int[] bad = {-1, 6, LEAST, MOST};
        for (int what : bad) {
            Twins.same("chapter(0, " + what + ")", Twins::rich, x -> x.chapter(0, what), BAD_VALUE);
        }
        int[] told = {5, 94, 3, 1, 1, 34};
        for (int what = 0; what <= 5; what++) {
            int number = what;
            Twins.same("chapter(3, " + what + ")", Twins::rich, x -> x.chapter(3, number), told[what]);
        }
    }

    static void promise14CasesThatItReachesAtBothEnds() {
        StatuteClauses x = book();
        x.setReach(5, 99, 99);
        due("first case 99", x.chapter(5, 0), 99);
        due("last case 99", x.chapter(5, 1), 99);
        x.setReach(5, 0, 0);
        due("first case 0", x.chapter(5, 0), 0);
        due("last case 0", x.chapter(5, 1), 0);
    }

    static void promise14ItsClausesFromNoneTo30() {
        StatuteClauses x = book();
        for (int k = 0; k < 30; k++) {
            due("chapter(4, 3)", x.chapter(4, 3), k);
            x.write(4, 0, 0, 0, k % 2);
        }
        due("chapter(4, 3)", x.chapter(4, 3), 30);
        due("chapter(4, 4)", x.chapter(4, 4), 30);
        due("chapter(3, 3)", x.chapter(3, 3), 0);
        x.end(0, 1);
        x.setDay(1);
        due("ended ones are its clauses", x.chapter(4, 3), 30);
        due("but not in force", x.chapter(4, 4), 29);
    }

    static void promise14InForceFromItsDateToTheDayAheadOfItsEnd() {
        StatuteClauses x = book();
        x.write(2, 5, 0, 0, 1);
        x.end(0, 8);
        int[] inForce = {0, 0, 0, 0, 0, 1, 1, 1, 0, 0};
        for (int day = 0; day < inForce.length; day++) {
            x.setDay(day);
            due("chapter(2, 4) on " + day, x.chapter(2, 4), inForce[day]);
            due("chapter(2, 5) on " + day, x.chapter(2, 5), inForce[day]);
            due("chapter(2, 3) on " + day, x.chapter(2, 3), 1);
        }
    }

    static void promise14CasesThatItRulesFromNoneTo100() {
        StatuteClauses x = book();
        due("chapter(0, 5)", x.chapter(0, 5), 0);
        x.write(0, 0, 99, 99, 1);
        due("the last case", x.chapter(0, 5), 1);
        x.write(0, 0, 0, 0, 1);
        due("the first case too", x.chapter(0, 5), 2);
        x.write(0, 0, 1, 99, 1);
        due("all cases, of two clauses", x.chapter(0, 5), 100);
        x.write(1, 0, 0, 99, 0);
        due("a chapter that says nothing", x.chapter(0, 5), 100);
        due("it rules none", x.chapter(1, 5), 0);
        x.write(1, 0, 0, 98, 1);
        due("all but one", x.chapter(1, 5), 99);
        due("the one that is left", x.chapter(0, 5), 1);
    }

    // ---- promise 15: clause

    static void promise15TheClauseMustBeThere() {
        for (int clause : NO_CLAUSES) {
            for (int what = -1; what <= 10; what++) {
                due("clause(" + clause + ", " + what + ")", rich().clause(clause, what), UNKNOWN);
            }
            Twins.same("clause(" + clause + ", 0)", Twins::rich, x -> x.clause(clause, 0), UNKNOWN);
        }
        StatuteClauses x = full();
        due("clause(29, 3)", x.clause(29, 3), 29);
        due("clause(30, 3)", x.clause(30, 3), UNKNOWN);
        x.undo();
        due("clause(29, 3), undone", x.clause(29, 3), UNKNOWN);
        due("clause(28, 3)", x.clause(28, 3), 28);
    }

    static void promise15WhatIs0To9() {
        int[] bad = {-1, 10, LEAST, MOST};
        for (int what : bad) {
            Twins.same("clause(0, " + what + ")", Twins::rich, x -> x.clause(0, what), BAD_VALUE);
        }
        int[] told = {1, 20, 1000, 10, 29, 2, 3, 1, 12, 12};
        for (int what = 0; what <= 9; what++) {
            int number = what;
            Twins.same("clause(1, " + what + ")", Twins::rich, x -> x.clause(1, number), told[what]);
        }
    }

    static void promise15InForceFromItsDateToTheDayAheadOfItsEnd() {
        StatuteClauses x = book();
        x.write(2, 0, 0, 99, 1);
        x.write(2, 999, 0, 99, 1);
        x.end(0, 1);
        due("on its date 0", x.clause(0, 7), 1);
        due("its cases", x.clause(0, 9), 100);
        due("not yet", x.clause(1, 7), 0);
        x.setDay(1);
        due("on its end", x.clause(0, 7), 0);
        due("its cases", x.clause(0, 8), 0);
        x.setDay(998);
        due("the day ahead of its date", x.clause(1, 7), 0);
        due("its cases", x.clause(1, 8), 0);
        x.setDay(999);
        due("on its date 999", x.clause(1, 7), 1);
        due("its cases", x.clause(1, 8), 100);
    }

    static void promise15CasesForWhichItSpeaks() {
        StatuteClauses x = book();
        x.write(1, 0, 0, 99, 1);
        x.write(2, 0, 1, 99, 1);
        due("it speaks for all", x.clause(0, 8), 100);
        due("it rules one", x.clause(0, 9), 1);
        x.write(2, 0, 0, 99, 0);
        due("the silent one speaks for none", x.clause(2, 8), 0);
        due("the silenced one speaks for none", x.clause(1, 8), 0);
        due("the lesser chapter speaks for all", x.clause(0, 8), 100);
        due("and rules all", x.clause(0, 9), 100);
        x.except(2, 99, 99);
        due("one case is excepted", x.clause(1, 8), 1);
        due("and ruled", x.clause(1, 9), 1);
    }

    // ---- promise 16: ruling

    static void promise16CaseIs0To99() {
        for (int number : NO_CASES) {
            Twins.same("ruling(" + number + ", 0, 0)", Twins::rich, x -> x.ruling(number, 0, 0), UNKNOWN);
            due("ahead of what", book().ruling(number, 0, 3), UNKNOWN);
        }
        StatuteClauses x = book();
        x.write(0, 0, 0, 0, 4);
        x.write(0, 0, 99, 99, 5);
        due("ruling(0, 0, 0)", x.ruling(0, 0, 0), 4);
        due("ruling(1, 0, 0)", x.ruling(1, 0, 0), NONE);
        due("ruling(98, 0, 0)", x.ruling(98, 0, 0), NONE);
        due("ruling(99, 0, 0)", x.ruling(99, 0, 0), 5);
    }

    static void promise16DayIs0To999() {
        for (int day : NO_DAYS) {
            Twins.same("ruling(0, " + day + ", 0)", Twins::rich, x -> x.ruling(0, day, 0), UNKNOWN);
            due("ahead of what", book().ruling(0, day, -1), UNKNOWN);
        }
        StatuteClauses x = book();
        x.write(0, 0, 7, 7, 4);
        x.end(0, 999);
        due("ruling(7, 0, 0)", x.ruling(7, 0, 0), 4);
        due("ruling(7, 998, 0)", x.ruling(7, 998, 0), 4);
        due("ruling(7, 999, 0)", x.ruling(7, 999, 0), NONE);
    }

    static void promise16WhatIs0To2() {
        int[] bad = {-1, 3, LEAST, MOST};
        for (int what : bad) {
            Twins.same("ruling(15, 20, " + what + ")", Twins::rich, x -> x.ruling(15, 20, what), BAD_VALUE);
            due("ahead of NONE", book().ruling(15, 20, what), BAD_VALUE);
        }
        int[] told = {2, 1, 1};
        for (int what = 0; what <= 2; what++) {
            int number = what;
            Twins.same("ruling(15, 20, " + what + ")", Twins::rich, x -> x.ruling(15, 20, number), told[what]);
        }
    }

    static void promise16NoneWithoutARuling() {
        for (int what = 0; what <= 2; what++) {
            int number = what;
            Twins.same("ruling(99, 20, " + what + ")", Twins::rich, x -> x.ruling(99, 20, number), NONE);
            due("nothing but silence", silent(30).ruling(50, 0, what), NONE);
        }
    }

    static void promise16SpansAtBothEnds() {
        StatuteClauses x = book();
        x.write(0, 3, 10, 20, 1);
        x.except(0, 12, 13);
        x.except(0, 13, 14);
        x.except(0, 18, 18);
        x.end(0, 6);
        for (int day = 0; day <= 8; day++) {
            for (int number = 0; number <= 99; number += number == 24 ? 75 : 1) {
                boolean meets = number >= 10 && number <= 20 && (number < 12 || number > 14) && number != 18;
                int want = meets && day >= 3 && day <= 5 ? 0 : NONE;
                due("ruling(" + number + ", " + day + ", 1)", x.ruling(number, day, 1), want);
                due("painted(" + number + ", " + day + ")", x.painted(number, day), want);
            }
        }
    }

    /** Three clauses of one chapter with all dates of 0 to 2: the latest date silences, then the greatest number. */
    static void promise16TheLatestDateThenTheGreatestNumberSilences() {
        for (int dates = 0; dates < 27; dates++) {
            StatuteClauses x = book();
            int[] date = {dates % 3, dates / 3 % 3, dates / 9};
            int top = 0;
            for (int k = 0; k < 3; k++) {
                x.write(4, date[k], 0, 99, k + 1);
                top = date[k] >= date[top] ? k : top;
            }
            due("ruling", x.ruling(50, 2, 1), top);
            due("painted", x.painted(50, 2), top);
            for (int k = 0; k < 3; k++) {
                due("silencedBy(" + k + ")", x.silencedBy(k, 50, 2), k == top ? NONE : top);
                due("reason(" + k + ")", x.reason(k, 50, 2), k == top ? 0 : 6);
            }
        }
    }

    static void promise16ASilentClauseSilencesItsOwnChapterAlone() {
        StatuteClauses x = book();
        x.write(3, 0, 0, 9, 1);
        x.write(2, 0, 0, 9, 2);
        x.write(3, 1, 5, 9, 0);
        x.write(4, 1, 0, 9, 0);
        due("ahead of its span", x.ruling(4, 1, 1), 0);
        due("ahead of its date", x.ruling(5, 0, 1), 0);
        due("the lesser chapter rules", x.ruling(5, 1, 1), 1);
        due("and in the last case", x.ruling(9, 1, 1), 1);
        due("painted", x.painted(5, 1), 1);
        x.write(3, 1, 6, 6, 5);
        due("a later one speaks again", x.ruling(6, 1, 1), 4);
        due("painted", x.painted(6, 1), 4);
    }

    // ---- promise 17: painted

    static void promise17CaseIs0To99() {
        for (int number : NO_CASES) {
            Twins.same("painted(" + number + ", 0)", Twins::rich, x -> x.painted(number, 0), UNKNOWN);
        }
        StatuteClauses x = book();
        x.write(0, 0, 0, 0, 4);
        x.write(0, 0, 99, 99, 5);
        due("painted(0, 0)", x.painted(0, 0), 0);
        due("painted(1, 0)", x.painted(1, 0), NONE);
        due("painted(98, 0)", x.painted(98, 0), NONE);
        due("painted(99, 0)", x.painted(99, 0), 1);
    }

    static void promise17DayIs0To999() {
        for (int day : NO_DAYS) {
            Twins.same("painted(0, " + day + ")", Twins::rich, x -> x.painted(0, day), UNKNOWN);
        }
        StatuteClauses x = book();
        x.write(0, 0, 7, 7, 4);
        x.end(0, 999);
        due("painted(7, 0)", x.painted(7, 0), 0);
        due("painted(7, 998)", x.painted(7, 998), 0);
        due("painted(7, 999)", x.painted(7, 999), NONE);
    }

    static void promise17NoneWithoutARuling() {
        Twins.same("painted(99, 20)", Twins::rich, x -> x.painted(99, 20), NONE);
        Twins.same("painted(15, 20)", Twins::rich, x -> x.painted(15, 20), 1);
        due("nothing but silence", silent(30).painted(50, 0), NONE);
    }

    static void promise17ReachesCutThePainting() {
        StatuteClauses x = book();
        x.write(2, 0, 10, 90, 1);
        int[][] reaches = {{20, 80}, {0, 50}, {50, 99}, {0, 9}, {91, 99}, {10, 10}, {90, 90}, {0, 99}};
        for (int[] reach : reaches) {
            x.setReach(2, reach[0], reach[1]);
            for (int number = 9; number <= 91; number += 2) {
                boolean meets = number >= Math.max(10, reach[0]) && number <= Math.min(90, reach[1]);
                due("painted(" + number + ", 0)", x.painted(number, 0), meets ? 0 : NONE);
            }
            due("painted(10, 0)", x.painted(10, 0), reach[0] <= 10 && reach[1] >= 10 ? 0 : NONE);
            due("painted(90, 0)", x.painted(90, 0), reach[0] <= 90 && reach[1] >= 90 ? 0 : NONE);
        }
    }

    /** Full books, so that one wrong turn of the order would show somewhere. */
    static void promise17ItAnswersAsRulingDoes() {
        for (int made = 0; made < 6; made++) {
            StatuteClauses x = book();
            for (int k = 0; k < 30; k++) {
                int from = (k * 37 + made * 11) % 100;
                x.write((k * 5 + made) % 6, (k * 29 + made * 7) % 12, from, Math.min(99, from + 40), (k + made) % 4);
            }
            x.exchange(made, 5 - made);
            x.setReach(made, 10, 60);
            for (int day = 0; day < 12; day += 5) {
                for (int number = made % 2; number < 100; number += 2) {
                    due("painted(" + number + ", " + day + ")", x.painted(number, day), x.ruling(number, day, 1));
                }
            }
        }
    }

    // ---- promise 18: silencedBy

    static void promise18ClauseCaseAndDayMustBeThere() {
        for (int clause : NO_CLAUSES) {
            Twins.same("silencedBy(" + clause + ", 15, 20)", Twins::rich, x -> x.silencedBy(clause, 15, 20), UNKNOWN);
        }
        for (int number : NO_CASES) {
            Twins.same("silencedBy(0, " + number + ", 20)", Twins::rich, x -> x.silencedBy(0, number, 20), UNKNOWN);
        }
        for (int day : NO_DAYS) {
            Twins.same("silencedBy(0, 15, " + day + ")", Twins::rich, x -> x.silencedBy(0, 15, day), UNKNOWN);
        }
        Twins.same("silencedBy(0, 15, 20)", Twins::rich, x -> x.silencedBy(0, 15, 20), 1);
        StatuteClauses x = silent(30);
        due("the first case and day", x.silencedBy(0, 0, 0), 29);
        due("the last case and day", x.silencedBy(28, 99, 999), 29);
        due("the last clause", x.silencedBy(29, 99, 999), NONE);
        due("no clause", x.silencedBy(30, 99, 999), UNKNOWN);
    }

    static void promise18NoneIfItIsNotInForce() {
        StatuteClauses x = book();
        x.write(1, 5, 0, 9, 1);
        x.write(1, 0, 0, 9, 1);
        x.write(1, 6, 0, 9, 1);
        x.end(0, 8);
        int[] first = {NONE, NONE, NONE, NONE, NONE, NONE, 2, 2, NONE, NONE};
        int[] second = {NONE, NONE, NONE, NONE, NONE, 0, 2, 2, 2, 2};
        for (int day = 0; day < first.length; day++) {
            due("silencedBy(0, 3, " + day + ")", x.silencedBy(0, 3, day), first[day]);
            due("silencedBy(1, 3, " + day + ")", x.silencedBy(1, 3, day), second[day]);
            due("silencedBy(2, 3, " + day + ")", x.silencedBy(2, 3, day), NONE);
        }
    }

    static void promise18NoneIfItDoesNotMeetTheCase() {
        StatuteClauses x = book();
        x.write(1, 0, 10, 30, 1);
        x.write(1, 0, 0, 99, 1);
        x.except(0, 20, 22);
        x.setReach(1, 12, 28);
        int[] cases = {9, 10, 11, 12, 19, 20, 22, 23, 28, 29, 30, 31};
        int[] due = {NONE, NONE, NONE, 1, 1, NONE, NONE, 1, 1, NONE, NONE, NONE};
        for (int i = 0; i < cases.length; i++) {
            due("silencedBy(0, " + cases[i] + ", 0)", x.silencedBy(0, cases[i], 0), due[i]);
        }
        x.setReach(1, 0, 99);
        due("the first case of the span", x.silencedBy(0, 10, 0), 1);
        due("the last case of the span", x.silencedBy(0, 30, 0), 1);
        due("ahead of the span", x.silencedBy(0, 9, 0), NONE);
        due("behind the span", x.silencedBy(0, 31, 0), NONE);
    }

    static void promise18NoneByOneThatDoesNotMeetTheCase() {
        StatuteClauses x = book();
        x.write(1, 0, 0, 99, 1);
        x.write(1, 0, 10, 30, 0);
        x.except(1, 20, 22);
        int[] cases = {9, 10, 19, 20, 22, 23, 30, 31};
        int[] due = {NONE, 1, 1, NONE, NONE, 1, 1, NONE};
        for (int i = 0; i < cases.length; i++) {
            due("silencedBy(0, " + cases[i] + ", 0)", x.silencedBy(0, cases[i], 0), due[i]);
            due("silencedBy(1, " + cases[i] + ", 0)", x.silencedBy(1, cases[i], 0), NONE);
        }
    }

    static void promise18AnotherChapterSilencesNone() {
        for (int chapter = 1; chapter < 6; chapter++) {
            StatuteClauses x = book();
            x.write(0, 0, 0, 99, 1);
            x.write(chapter, 5, 0, 99, 0);
            due("silencedBy(0, 50, 5)", x.silencedBy(0, 50, 5), NONE);
            due("reason(0, 50, 5)", x.reason(0, 50, 5), 0);
        }
    }

    // ---- promise 19: reason

    static void promise19ClauseCaseAndDayMustBeThere() {
        for (int clause : NO_CLAUSES) {
            Twins.same("reason(" + clause + ", 15, 20)", Twins::rich, x -> x.reason(clause, 15, 20), UNKNOWN);
        }
        for (int number : NO_CASES) {
            Twins.same("reason(0, " + number + ", 20)", Twins::rich, x -> x.reason(0, number, 20), UNKNOWN);
        }
        for (int day : NO_DAYS) {
            Twins.same("reason(0, 15, " + day + ")", Twins::rich, x -> x.reason(0, 15, day), UNKNOWN);
        }
        Twins.same("reason(1, 15, 20)", Twins::rich, x -> x.reason(1, 15, 20), 0);
        StatuteClauses x = silent(30);
        due("the first case and day", x.reason(0, 0, 0), 6);
        due("the last case and day", x.reason(28, 99, 999), 6);
        due("the last clause", x.reason(29, 99, 999), 7);
        due("no clause", x.reason(30, 99, 999), UNKNOWN);
    }

    /** Every set of reasons that can hold at once; those that do not hold fail to by one day, case or rank. */
    static void promise19TheFirstThatHolds() {
        for (int time = 0; time <= 2; time++) {
            for (int others = 0; others < 64; others++) {
                int first = time;
                for (int k = 0; first == 0 && k < 6; k++) {
                    first = (others >> k & 1) == 1 ? 3 + k : 0;
                }
                StatuteClauses x = withReasons(time, others);
                due("reason with the times " + time + " and the set " + others, x.reason(0, 50, 500), first);
                due("ruling with the times " + time + " and the set " + others,
                    x.ruling(50, 500, 1) == 0 ? 1 : 0, first == 0 ? 1 : 0);
            }
        }
    }

    private static StatuteClauses withReasons(int time, int others) {
        boolean[] holds = new boolean[9];
        for (int k = 0; k < 6; k++) {
            holds[3 + k] = (others >> k & 1) == 1;
        }
        StatuteClauses x = book();
        int date = time == 1 ? 501 : time == 2 ? 499 : 500;
        boolean ahead = others % 2 == 0;
        int from = !holds[4] ? 50 : ahead ? 51 : 40;
        int to = !holds[4] ? 50 : ahead ? 60 : 49;
        x.write(2, date, from, to, holds[7] ? 0 : 1);
        x.end(0, time == 1 ? 502 : time == 2 ? 500 : 501);
        x.setReach(2, holds[3] ? 51 : 50, holds[3] ? 99 : 50);
        x.except(0, 49, 49);
        x.except(0, holds[5] ? 50 : 51, 51);
        x.write(2, holds[6] ? date : date - 1, 50, 50, 1);
        x.write(holds[8] ? 3 : 1, 0, 50, 50, 1);
        return x;
    }

    static void promise19EachReasonAtItsEdge() {
        StatuteClauses x = book();
        x.write(2, 10, 20, 40, 1);
        x.end(0, 30);
        x.setReach(2, 25, 99);
        x.except(0, 30, 31);
        int[][] due = {{30, 9, 1}, {24, 10, 3}, {25, 10, 0}, {29, 29, 0}, {29, 30, 2}, {30, 29, 5}, {31, 29, 5},
            {32, 29, 0}, {40, 29, 0}, {41, 29, 4}, {19, 29, 3}, {0, 0, 1}, {99, 999, 2}, {99, 29, 4}};
        for (int[] one : due) {
            due("reason(0, " + one[0] + ", " + one[1] + ")", x.reason(0, one[0], one[1]), one[2]);
        }
    }

    static void promise19AChapterOfAGreaterRankThatSaysNothingDoesNotRule() {
        StatuteClauses x = book();
        x.write(2, 0, 50, 50, 1);
        x.write(3, 0, 50, 50, 0);
        due("a silent one", x.reason(0, 50, 0), 0);
        x.write(3, 1, 50, 50, 1);
        due("ahead of its date", x.reason(0, 50, 0), 0);
        due("one that speaks", x.reason(0, 50, 1), 8);
        x.exchange(2, 3);
        due("a lesser rank", x.reason(0, 50, 1), 0);
    }

    // ---- promise 20: changesOn

    static void promise20CaseIs0To99() {
        for (int number : NO_CASES) {
            Twins.same("changesOn(" + number + ", 0)", Twins::rich, x -> x.changesOn(number, 0), UNKNOWN);
        }
        StatuteClauses x = book();
        x.write(0, 5, 0, 0, 1);
        x.write(0, 6, 99, 99, 1);
        due("changesOn(0, 0)", x.changesOn(0, 0), 5);
        due("changesOn(1, 0)", x.changesOn(1, 0), NONE);
        due("changesOn(98, 0)", x.changesOn(98, 0), NONE);
        due("changesOn(99, 0)", x.changesOn(99, 0), 6);
    }

    static void promise20DayIs0To999() {
        for (int day : NO_DAYS) {
            Twins.same("changesOn(0, " + day + ")", Twins::rich, x -> x.changesOn(0, day), UNKNOWN);
        }
        Twins.same("changesOn(15, 19)", Twins::rich, x -> x.changesOn(15, 19), 20);
    }

    static void promise20NoneIfThereIsNoneUpTo999() {
        Twins.same("changesOn(15, 20)", Twins::rich, x -> x.changesOn(15, 20), NONE);
        StatuteClauses x = book();
        x.write(0, 0, 5, 5, 1);
        due("a clause of day 0 that never ends", x.changesOn(5, 0), NONE);
        x.write(0, 999, 5, 5, 1);
        due("from 0 to 999", x.changesOn(5, 0), 999);
        due("from 998 to 999", x.changesOn(5, 998), 999);
        due("behind 999", x.changesOn(5, 999), NONE);
        StatuteClauses y = book();
        y.write(0, 0, 5, 5, 1);
        y.end(0, 999);
        due("an end on 999", y.changesOn(5, 998), 999);
        due("behind it", y.changesOn(5, 999), NONE);
        due("no ruling at all", y.changesOn(6, 0), NONE);
    }

    static void promise20TheFirstDayBehindTheDay() {
        StatuteClauses x = book();
        x.write(0, 1, 5, 5, 1);
        x.write(0, 2, 5, 5, 1);
        x.end(1, 3);
        x.end(0, 4);
        for (int day = 0; day <= 3; day++) {
            due("changesOn(5, " + day + ")", x.changesOn(5, day), day + 1);
        }
        due("changesOn(5, 4)", x.changesOn(5, 4), NONE);
    }

    static void promise20WhetherVerdictsAreAlikeDoesNotMatter() {
        StatuteClauses x = book();
        x.write(0, 0, 5, 5, 7);
        x.write(0, 10, 5, 5, 7);
        x.write(1, 20, 5, 5, 7);
        due("the same chapter", x.changesOn(5, 0), 10);
        due("another chapter", x.changesOn(5, 10), 20);
    }

    static void promise20ADayOnWhichNothingIsOtherIsPassedOver() {
        StatuteClauses x = book();
        x.write(3, 0, 5, 5, 7);
        x.write(2, 10, 5, 5, 8);
        x.write(4, 20, 5, 5, 0);
        x.write(3, 30, 6, 6, 9);
        x.write(3, 40, 5, 5, 9);
        x.end(4, 50);
        due("a lesser rank, a silent greater one, another case", x.changesOn(5, 0), 40);
        due("the same clause again", x.changesOn(5, 40), 50);
        x.end(1, 60);
        due("one that is not seen ends", x.changesOn(5, 50), NONE);
    }

    static void promise20ToNoneAndFromNone() {
        StatuteClauses x = book();
        x.write(3, 10, 5, 5, 7);
        x.write(3, 20, 5, 5, 0);
        x.end(1, 30);
        x.end(0, 40);
        int[] days = {0, 9, 10, 19, 20, 29, 30, 39, 40};
        int[] due = {10, 10, 20, 20, 30, 30, 40, 40, NONE};
        for (int i = 0; i < days.length; i++) {
            due("changesOn(5, " + days[i] + ")", x.changesOn(5, days[i]), due[i]);
        }
    }

    static void promise20TodayDoesNotMatter() {
        StatuteClauses x = book();
        x.write(3, 10, 5, 5, 7);
        x.setDay(500);
        due("changesOn(5, 0)", x.changesOn(5, 0), 10);
    }

    // ---- promise 21: unlike

    static void promise21BothChaptersAre0To5() {
        for (int chapter : NO_CHAPTERS) {
            Twins.same("unlike(" + chapter + ", 0)", Twins::rich, x -> x.unlike(chapter, 0), UNKNOWN);
            Twins.same("unlike(0, " + chapter + ")", Twins::rich, x -> x.unlike(0, chapter), UNKNOWN);
            due("both the same", book().unlike(chapter, chapter), UNKNOWN);
        }
        Twins.same("unlike(1, 3)", Twins::rich, x -> x.unlike(1, 3), 45);
        due("unlike(0, 5)", book().unlike(0, 5), 0);
        due("unlike(5, 0)", book().unlike(5, 0), 0);
    }

    static void promise21BadValueIfBothAreTheSame() {
        for (int chapter = 0; chapter < 6; chapter++) {
            int one = chapter;
            Twins.same("unlike(" + one + ", " + one + ")", Twins::rich, x -> x.unlike(one, one), BAD_VALUE);
        }
    }

    static void promise21FromNoneTo100() {
        StatuteClauses x = book();
        x.write(1, 0, 0, 99, 3);
        due("one speaks alone", x.unlike(1, 4), 0);
        x.write(4, 0, 0, 99, 3);
        due("both alike", x.unlike(1, 4), 0);
        x.write(4, 0, 99, 99, 4);
        due("unlike in the last case", x.unlike(1, 4), 1);
        x.write(4, 0, 0, 0, 2);
        due("in the first one too", x.unlike(4, 1), 2);
        x.write(4, 0, 0, 99, 9);
        due("in all", x.unlike(1, 4), 100);
        x.write(5, 0, 0, 99, 3);
        due("also where both are not the last word", x.unlike(1, 4), 100);
        x.write(1, 0, 0, 49, 0);
        due("one that says nothing speaks not", x.unlike(1, 4), 50);
        x.write(4, 0, 50, 99, 0);
        due("nor the other one", x.unlike(1, 4), 0);
    }

    static void promise21TodayAlone() {
        StatuteClauses x = book();
        x.write(1, 5, 0, 9, 3);
        x.write(2, 0, 0, 9, 4);
        x.end(1, 7);
        int[] due = {0, 0, 0, 0, 0, 10, 10, 0};
        for (int day = 0; day < due.length; day++) {
            x.setDay(day);
            due("unlike(1, 2) on " + day, x.unlike(1, 2), due[day]);
        }
    }

    // ---- promise 22: idle

    static void promise22ASetOfUpTo30Clauses() {
        Twins.same("idle()", Twins::rich, StatuteClauses::idle, 1 << 3);
        due("no clause", book().idle(), 0);
        for (int clauses = 1; clauses <= 30; clauses++) {
            due("idle() of " + clauses, silent(clauses).idle(), (1 << clauses) - 1);
        }
        StatuteClauses x = silent(29);
        x.write(0, 0, 0, 99, 1);
        due("all but the last", x.idle(), (1 << 29) - 1);
        StatuteClauses y = book();
        y.write(1, 0, 0, 99, 1);
        for (int k = 1; k < 30; k++) {
            y.write(0, 0, 0, 99, 0);
        }
        due("all but the first", y.idle(), (1 << 30) - 2);
    }

    static void promise22OneCaseOnOneDayIsEnough() {
        int[][] dates = {{0, 1}, {998, 999}, {999, 1000}, {1, 2}};
        int[] cases = {0, 1, 50, 98, 99};
        for (int[] date : dates) {
            for (int number : cases) {
                StatuteClauses x = book();
                x.write(0, date[0], number, number, 1);
                x.write(5, 0, 0, 99, 1);
                if (date[1] < 1000) {
                    x.end(0, date[1]);
                }
                due("under a greater rank", x.idle(), 1);
                x.except(1, number, number);
                due("one case of day " + date[0] + " is left", x.idle(), 0);
                x.except(0, number, number);
                due("and excepted", x.idle(), 1);
            }
        }
    }

    static void promise22OneDayOfTwoOthers() {
        StatuteClauses x = book();
        x.write(0, 0, 0, 99, 1);
        x.write(0, 0, 0, 99, 1);
        x.end(1, 500);
        x.write(0, 500, 0, 99, 1);
        due("no day is left", x.idle(), 1);
        x.end(1, 499);
        due("the day 499 is left", x.idle(), 0);
    }

    static void promise22TodayDoesNotMatterAndTheReachDoes() {
        StatuteClauses x = book();
        x.write(0, 10, 50, 60, 1);
        x.end(0, 11);
        x.setDay(999);
        due("today is behind its end", x.idle(), 0);
        x.setReach(0, 61, 99);
        due("the reach is behind its span", x.idle(), 1);
        x.setReach(0, 60, 99);
        due("the reach has its last case", x.idle(), 0);
        x.setReach(0, 0, 50);
        due("the reach has its first case", x.idle(), 0);
        x.setReach(0, 0, 49);
        due("the reach is ahead of its span", x.idle(), 1);
    }

    // ---- promise 23: ifGone

    static void promise23TheClauseMustBeThere() {
        for (int clause : NO_CLAUSES) {
            Twins.same("ifGone(" + clause + ")", Twins::rich, x -> x.ifGone(clause), UNKNOWN);
        }
        int[] others = {38, 12, 34, 0};
        for (int clause = 0; clause < others.length; clause++) {
            int one = clause;
            Twins.same("ifGone(" + clause + ")", Twins::rich, x -> x.ifGone(one), others[one]);
        }
        due("ifGone(0) of none", book().ifGone(0), UNKNOWN);
        StatuteClauses y = full();
        y.setDay(29);
        due("ifGone(29) of 30: 29 to 70", y.ifGone(29), 42);
        due("ifGone(30) of 30", y.ifGone(30), UNKNOWN);
    }

    static void promise23FromNoneTo100() {
        StatuteClauses x = book();
        x.write(2, 0, 0, 99, 7);
        due("all cases, to none", x.ifGone(0), 100);
        x.write(2, 0, 0, 99, 7);
        due("all cases, to one of a like verdict", x.ifGone(1), 100);
        due("one that is silenced", x.ifGone(0), 0);
        x.write(2, 0, 99, 99, 0);
        due("one that says nothing, the last case, from none", x.ifGone(2), 1);
        due("the one below it", x.ifGone(1), 99);
        x.write(3, 0, 0, 98, 7);
        due("one under a greater rank", x.ifGone(1), 0);
        due("a greater rank", x.ifGone(3), 99);
        due("a silent one where the greater rank does not rule", x.ifGone(2), 1);
    }

    static void promise23TheRulingOfTodayAlone() {
        StatuteClauses x = book();
        x.write(2, 5, 0, 9, 7);
        x.end(0, 7);
        int[] due = {0, 0, 0, 0, 0, 10, 10, 0};
        for (int day = 0; day < due.length; day++) {
            x.setDay(day);
            due("ifGone(0) on " + day, x.ifGone(0), due[day]);
        }
    }

    // ---- promise 24: weightiest

    static void promise24NoneIfNoCaseHasARuling() {
        due("no clause", book().weightiest(), NONE);
        due("nothing but silence", silent(30).weightiest(), NONE);
        Twins.same("all are later", x -> x.write(0, 1, 0, 99, 1), StatuteClauses::weightiest, NONE);
        StatuteClauses x = book();
        x.write(0, 1, 0, 99, 1);
        x.end(0, 2);
        int[] due = {NONE, 0, NONE};
        for (int day = 0; day < 3; day++) {
            x.setDay(day);
            due("weightiest() on " + day, x.weightiest(), due[day]);
        }
        due("one case is enough", oneCase().weightiest(), 29);
    }

    /** Thirty clauses, of which the last one alone rules, and one case alone. */
    private static StatuteClauses oneCase() {
        StatuteClauses x = silent(29);
        x.write(0, 0, 99, 99, 1);
        return x;
    }

    static void promise24OfSeveralTheLowest() {
        Twins.same("weightiest()", Twins::rich, StatuteClauses::weightiest, 0);
        StatuteClauses x = book();
        x.write(5, 0, 0, 32, 1);
        x.write(0, 0, 33, 65, 1);
        x.write(3, 0, 66, 98, 1);
        due("three alike", x.weightiest(), 0);
        x.except(0, 0, 0);
        due("two alike", x.weightiest(), 1);
        x.write(1, 0, 99, 99, 1);
        due("a fourth one of a single case", x.weightiest(), 1);
        x.write(4, 0, 65, 65, 1);
        due("the third one alone", x.weightiest(), 2);
        due("all thirty alike", alike().weightiest(), 0);
    }

    private static StatuteClauses alike() {
        StatuteClauses x = book();
        for (int k = 0; k < 30; k++) {
            x.write(k % 6, 0, 3 * k, 3 * k + 2, 1);
        }
        return x;
    }

    // ---- promise 25: count

    static void promise25WhatIs0To8() {
        int[] bad = {-1, 9, LEAST, MOST};
        for (int what : bad) {
            Twins.same("count(" + what + ")", Twins::rich, x -> x.count(what), BAD_VALUE);
        }
        int[] told = {20, 4, 4, 84, 129, 4, 1, 4, 23};
        for (int what = 0; what <= 8; what++) {
            int number = what;
            Twins.same("count(" + what + ")", Twins::rich, x -> x.count(number), told[what]);
        }
    }

    static void promise25AllAsGreatAsTheyCanBe() {
        StatuteClauses x = book();
        x.setDay(999);
        for (int k = 0; k < 30; k++) {
            x.write(k % 6, k, 0, 99, 9);
            for (int i = 0; i < 3; i++) {
                x.except(k, i, i);
            }
        }
        fill(x);
        int[] told = {999, 30, 30, 97, 6 * 97, 90, 0, 4, 80};
        for (int what = 0; what < told.length; what++) {
            due("count(" + what + ")", x.count(what), told[what]);
        }
        StatuteClauses y = full();
        due("30 clauses without exceptions, cases", y.count(3), 0);
        y.setDay(999);
        due("cases, all but the first and the last", y.count(3), 98);
        due("clauses that say nothing", y.count(6), 3);
        due("nothing but silence", silent(30).count(6), 30);
        due("nothing but silence, cases", silent(30).count(3), 0);
        due("nothing but silence, speaking", silent(30).count(4), 0);
    }

    private static void fill(StatuteClauses x) {
        for (int length = 1; length <= 80; length++) {
            due("type", x.type((char) length), length);
        }
    }

    static void promise25EachChapterSpeaksInAllCases() {
        StatuteClauses x = book();
        for (int chapter = 0; chapter < 6; chapter++) {
            due("count(4)", x.count(4), 100 * chapter);
            due("count(3)", x.count(3), chapter == 0 ? 0 : 100);
            x.write(chapter, 0, 0, 99, 1);
        }
        due("count(4)", x.count(4), 600);
        due("count(3)", x.count(3), 100);
        x.write(5, 0, 0, 99, 1);
        due("a chapter speaks once for a case", x.count(4), 600);
    }

    static void promise25InForceFromItsDateToTheDayAheadOfItsEnd() {
        StatuteClauses x = book();
        x.write(2, 5, 0, 9, 1);
        x.write(4, 6, 5, 14, 2);
        x.end(0, 8);
        int[] inForce = {0, 0, 0, 0, 0, 1, 2, 2, 1, 1};
        int[] ruled = {0, 0, 0, 0, 0, 10, 15, 15, 10, 10};
        int[] spoken = {0, 0, 0, 0, 0, 10, 20, 20, 10, 10};
        for (int day = 0; day < inForce.length; day++) {
            x.setDay(day);
            due("count(1) on " + day, x.count(1), 2);
            due("count(2) on " + day, x.count(2), inForce[day]);
            due("count(3) on " + day, x.count(3), ruled[day]);
            due("count(4) on " + day, x.count(4), spoken[day]);
        }
    }

    static void promise25AccountsAddUp() {
        for (int day = 0; day <= 40; day += 4) {
            StatuteClauses x = full();
            x.setReach(3, 20, 70);
            x.exchange(2, 5);
            x.end(7, 12);
            x.setDay(day + 1);
            int[] ofChapters = new int[6];
            int[] ofClauses = new int[10];
            for (int what = 3; what <= 5; what++) {
                for (int chapter = 0; chapter < 6; chapter++) {
                    ofChapters[what] += x.chapter(chapter, what);
                }
            }
            for (int what = 6; what <= 9; what++) {
                for (int clause = 0; clause < 30; clause++) {
                    ofClauses[what] += x.clause(clause, what);
                }
            }
            due("clauses of chapters", ofChapters[3], x.count(1));
            due("those in force of chapters", ofChapters[4], x.count(2));
            due("cases that chapters rule", ofChapters[5], x.count(3));
            due("exceptions", ofClauses[6], x.count(5));
            due("clauses in force", ofClauses[7], x.count(2));
            due("cases spoken for", ofClauses[8], x.count(4));
            due("cases ruled", ofClauses[9], x.count(3));
        }
    }

    public static void main(String[] args) {
        runPromises(BoundaryToldTest.class, 14, 25);
        finish();
    }
}
