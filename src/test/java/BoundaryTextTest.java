/** The boundary cases of promise 10 (writeAll) and of the texts that it reads. */
public final class BoundaryTextTest extends Dues {
    private static final String DIGITS = "0123456789";
    /** Signs that no text has, beside those from 0 to 127: digits of other scripts and signs alike in their low bits. */
    private static final int[] FAR = {128, 176, 255, 256, 304, 0x660, 0x966, 0xFF10, 65535};

    /** What is allowed behind the beginning of a text, sign by sign. */
    private static void nextDue(String beginning, String allowed) {
        for (int sign = 0; sign < 128; sign++) {
            signDue(beginning, (char) sign, allowed);
        }
        for (int sign : FAR) {
            signDue(beginning, (char) sign, allowed);
        }
    }

    private static void signDue(String beginning, char sign, String allowed) {
        StatuteClauses x = book();
        int answer = written(x, beginning + sign);
        int place = beginning.length();
        String call = "writeAll() of " + beginning + " and the sign " + (int) sign;
        if (allowed.indexOf(sign) < 0) {
            due(call, answer, -100 - place);
        } else if (answer <= -100) {
            due(call, answer, -100 - place - 1);
        }
        if (answer < 0) {
            due(call + ", clauses", x.count(1), 0);
            due(call + ", states", x.count(7), 0);
        }
    }

    static void promise10ChapterIs0To5() {
        nextDue("", "012345");
        String[] numbers = {"0", "1", "5"};
        for (String number : numbers) {
            nextDue(number, "@");
            nextDue("0@0:0-0=0;" + number, "@");
        }
        nextDue("0@0:0-0=0;", "012345");
        nextDue("0@0:0-0=0!0-0;", "012345");
    }

    static void promise10DateIs0To999() {
        nextDue("0@", DIGITS);
        nextDue("0@0", ":");
        nextDue("0@1", DIGITS + ":");
        nextDue("0@9", DIGITS + ":");
        nextDue("0@10", DIGITS + ":");
        nextDue("0@99", DIGITS + ":");
        nextDue("0@100", ":");
        nextDue("0@999", ":");
    }

    static void promise10CasesAre0To99() {
        caseDue("0@0:", "-");
        caseDue("0@0:1-", "=");
        caseDue("0@0:1-2=3!", "-");
        caseDue("0@0:1-2=3!4-", ",;");
        caseDue("0@0:1-2=3!4-5,", "-");
        caseDue("0@0:1-2=3!4-5,6-", ",;");
        caseDue("0@0:1-2=3!4-5,6-7,", "-");
        caseDue("0@0:1-2=3!4-5,6-7,8-", ";");
    }

    private static void caseDue(String beginning, String behind) {
        nextDue(beginning, DIGITS);
        nextDue(beginning + "0", behind);
        nextDue(beginning + "1", DIGITS + behind);
        nextDue(beginning + "9", DIGITS + behind);
        nextDue(beginning + "10", behind);
        nextDue(beginning + "99", behind);
    }

    static void promise10VerdictIs0To9() {
        nextDue("0@0:0-0=", DIGITS);
        nextDue("0@0:0-0=0", "!;");
        nextDue("0@0:0-0=1", "!;");
        nextDue("0@0:0-0=9", "!;");
    }

    static void promise10BehindTheThirdExceptionIsNoComma() {
        textDue("0@0:0-0=0!1-1,2-2,3-3", 1);
        textDue("0@0:0-0=0!1-1,2-2,3-3,", -121);
        textDue("0@0:0-0=0!1-1,2-2,3-3,4-4", -121);
        textDue("0@0:0-0=0!1-1,2-2,3-3;0@0:0-0=0!1-1,2-2,3-3,4-4", -143);
        textDue("0@0:0-0=0!1-1,2-2,33-33;0@0:0-0=0!1-1", 2);
    }

    static void promise10NumbersHaveNoZeroInFront() {
        textDue("00@0:0-0=0", -101);
        textDue("0@00:0-0=0", -103);
        textDue("0@01:0-0=0", -103);
        textDue("0@0:00-0=0", -105);
        textDue("0@0:07-9=0", -105);
        textDue("0@0:0-00=0", -107);
        textDue("0@0:0-09=0", -107);
        textDue("0@0:0-0=00", -109);
        textDue("0@0:0-0=0!00-0", -111);
        textDue("0@0:0-0=0!0-00", -113);
        textDue("0@0:0-0=0!0-0,05-6", -115);
        textDue("0@100:10-20=0!10-20", 1);
    }

    static void promise10ADigitByWhichANumberWouldBeGreaterIsNotAllowed() {
        textDue("6@0:0-0=0", -100);
        textDue("10@0:0-0=0", -101);
        textDue("0@1000:0-0=0", -105);
        textDue("0@9999:0-0=0", -105);
        textDue("0@0:100-0=0", -106);
        textDue("0@0:0-100=0", -108);
        textDue("0@0:0-0=10", -109);
        textDue("0@0:0-0=0!100-0", -112);
        textDue("0@0:0-0=0!0-100", -114);
        textDue("5@999:99-99=9!99-99", 1);
    }

    static void promise10ATextThatEndsTooEarly() {
        textDue("", -100);
        String clause = "5@999:12-34=9!1-19,2-29,3-39";
        boolean[] whole = new boolean[clause.length() + 1];
        int[] ends = {13, 17, 18, 22, 23, 27, 28};
        for (int end : ends) {
            whole[end] = true;
        }
        for (int length = 0; length <= clause.length(); length++) {
            String part = clause.substring(0, length);
            textDue(part, whole[length] ? 1 : -100 - length);
            textDue("0@0:0-0=0;" + part, whole[length] ? 2 : -110 - length);
        }
    }

    static void promise10TheFaultIsTheFirstCharacterThatIsNotAllowed() {
        textDue("x", -100);
        textDue("xx", -100);
        textDue("0@0:0-0=0xx", -109);
        textDue("0@0:0-0=0;x@0:0-0=y", -110);
        textDue("0@0:9-0=0;6", -110);
        textDue(" 0@0:0-0=0", -100);
        textDue("0@0:0-0=0 ", -109);
        textDue("-1@0:0-0=0", -100);
        textDue("+1@0:0-0=0", -100);
    }

    static void promise10ATextOf80Characters() {
        StatuteClauses x = book();
        due("eight clauses", written(x, "0@0:0-0=1;1@0:0-0=2;2@0:0-0=3;3@0:0-0=4;4@0:0-0=5;5@0:0-0=6;0@1:1-1=7;1@2:1-10=8"), 8);
        due("count(8)", x.count(8), 80);
        due("clause(7, 1)", x.clause(7, 1), 2);
        due("clause(7, 4)", x.clause(7, 4), 10);
        due("clause(7, 5)", x.clause(7, 5), 8);
        String seven = "0@0:0-0=1;1@0:0-0=2;2@0:0-0=3;3@0:0-0=4;4@0:0-0=5;5@0:0-0=6;0@1:1-1=7;";
        textDue(seven + "1@2:10-10=", -180);
        textDue(seven + "1@2:1-1=0x", -179);
        textDue(seven + "1@2:1-1=0;", -180);
        textDue(seven + "1@2:1-1=0!", -180);
        textDue(seven + "1@2:1-1=0", 8);
        String exceptions = "5@999:10-99=9!10-99,10-99,10-99;5@999:10-99=9!10-99,10-99,10-99;5@999:10-99=9!";
        textDue(exceptions + "10", -180);
        textDue(exceptions + "1x", -179);
        textDue(exceptions.substring(0, 63), 2);
    }

    static void promise10TheLastCaseMayBeTheFirstOne() {
        textDue("0@0:5-5=1", 1);
        textDue("0@0:5-4=1", BAD_VALUE);
        textDue("0@0:99-99=1", 1);
        textDue("0@0:99-98=1", BAD_VALUE);
        textDue("0@0:0-0=1", 1);
        textDue("0@0:1-0=1", BAD_VALUE);
        textDue("0@0:99-0=1", BAD_VALUE);
        String[] begins = {"0@0:0-9=1!", "0@0:0-9=1!3-3,", "0@0:0-9=1!3-3,4-4,", "0@0:0-9=1;0@0:0-9=0!"};
        for (String begin : begins) {
            int clauses = begin.indexOf(';') < 0 ? 1 : 2;
            textDue(begin + "5-5", clauses);
            textDue(begin + "5-4", BAD_VALUE);
            textDue(begin + "99-99", clauses);
            textDue(begin + "99-0", BAD_VALUE);
            textDue(begin + "50-60;0@0:0-0=0", clauses + 1);
            textDue(begin + "60-50;0@0:0-0=0", BAD_VALUE);
        }
        textDue("0@0:0-9=1!5-4,5-5", BAD_VALUE);
        textDue("0@0:0-9=1!5-4,5-5,6-6", BAD_VALUE);
        textDue("0@0:6-5=1!5-5", BAD_VALUE);
    }

    static void promise10FullIfThereWouldBeMoreThan30() {
        for (int room = 0; room <= 3; room++) {
            StatuteClauses x = book();
            for (int k = room; k < 30; k++) {
                x.write(0, 0, 0, 0, 1);
            }
            String text = "1@0:0-9=2!3-4";
            for (int clauses = 1; clauses <= 4; clauses++) {
                due(clauses + " of room for " + room, written(x, text), clauses <= room ? clauses : FULL);
                due("count(1)", x.count(1), clauses <= room ? 30 - room + clauses : 30 - room);
                if (clauses <= room) {
                    x.undo();
                }
                text = text + ";2@0:0-0=3";
            }
        }
    }

    static void promise10RefusalsChangeNothing() {
        Twins.same("a fault", x -> { Twins.rich(x); typeAll(x, "0@0:0-0=1;0"); }, StatuteClauses::writeAll, -111);
        Twins.same("the empty text", x -> { Twins.rich(x); x.clearText(); }, StatuteClauses::writeAll, -100);
        Twins.same("a reversed span", x -> { Twins.rich(x); typeAll(x, "0@0:0-0=1;0@0:1-0=1"); },
            StatuteClauses::writeAll, BAD_VALUE);
        Twins.same("a reversed exception", x -> { Twins.rich(x); typeAll(x, "0@0:0-0=1;0@0:0-1=1!1-1,2-1"); },
            StatuteClauses::writeAll, BAD_VALUE);
        Twins.same("no room", x -> { Twins.full(x); typeAll(x, "0@0:0-0=1"); }, StatuteClauses::writeAll, FULL);
        Twins.same("room for one of two", x -> { Twins.full(x); x.undo(); typeAll(x, "0@0:0-0=1;1@0:0-0=1"); },
            StatuteClauses::writeAll, FULL);
    }

    static void promise10TheOrderOfTheChecks() {
        StatuteClauses x = book();
        Twins.full(x);
        due("a fault ahead of a span", written(x, "0@0:1-0=1;"), -110);
        due("a fault ahead of room", written(x, "0@0:0-1=1x"), -109);
        due("a span ahead of room", written(x, "0@0:1-0=1"), BAD_VALUE);
        due("an exception's span ahead of room", written(x, "0@0:0-1=1!1-0"), BAD_VALUE);
        due("room", written(x, "0@0:0-1=1!0-1"), FULL);
    }

    static void promise10ItIsOneAct() {
        Twins.act("two clauses", x -> { Twins.rewound(x); typeAll(x, "5@999:99-99=9;0@0:0-0=0!0-0,1-1,2-2"); },
            StatuteClauses::writeAll, 2);
        StatuteClauses x = book();
        due("four clauses", written(x, "0@0:0-0=1;1@0:0-0=2;2@0:0-0=3;3@0:0-0=4"), 4);
        history(x, 1);
        due("undo()", x.undo(), 0);
        due("count(1)", x.count(1), 0);
    }

    static void promise10TheTextStays() {
        StatuteClauses x = book();
        typeAll(x, "0@0:0-0=1");
        for (int k = 1; k <= 30; k++) {
            due("writeAll() number " + k, x.writeAll(), 1);
            due("count(8)", x.count(8), 9);
            due("count(1)", x.count(1), k);
        }
        due("writeAll() number 31", x.writeAll(), FULL);
        due("count(8)", x.count(8), 9);
        due("type(';')", x.type(';'), 10);
    }

    static void promise10OneAfterTheOther() {
        StatuteClauses x = book();
        x.write(3, 3, 3, 3, 3);
        written(x, "0@999:0-99=0!0-0,99-99,50-51;5@0:99-99=9;2@10:7-8=1!8-8");
        int[][] told = {{0, 999, 1000, 0, 99, 0, 3}, {5, 0, 1000, 99, 99, 9, 0}, {2, 10, 1000, 7, 8, 1, 1}};
        for (int k = 0; k < told.length; k++) {
            for (int what = 0; what < told[k].length; what++) {
                due("clause(" + (k + 1) + ", " + what + ")", x.clause(k + 1, what), told[k][what]);
            }
        }
        int[] cases = {0, 1, 49, 50, 51, 52, 98, 99};
        int[] reasons = {5, 7, 7, 5, 5, 7, 7, 5};
        for (int i = 0; i < cases.length; i++) {
            due("reason(1, " + cases[i] + ", 999)", x.reason(1, cases[i], 999), reasons[i]);
        }
        due("ruling(7, 10)", x.ruling(7, 10, 1), 3);
        due("ruling(8, 10)", x.ruling(8, 10, 1), NONE);
        due("ruling(99, 0)", x.ruling(99, 0, 1), 2);
    }

    static void promise10TheSameClauseTwice() {
        StatuteClauses x = book();
        due("twice the same", written(x, "0@0:0-9=1;0@0:0-9=1"), 2);
        due("the greater number silences", x.silencedBy(0, 5, 0), 1);
        due("ruling(5, 0)", x.ruling(5, 0, 1), 1);
    }

    public static void main(String[] args) {
        runPromises(BoundaryTextTest.class, 10, 10);
        finish();
    }
}
