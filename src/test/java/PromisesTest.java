/** One method for each promise: ordinary inputs, edges, wrong inputs. */
public final class PromisesTest extends Dues {
    private static void newObject() {
        due("UNKNOWN", StatuteClauses.UNKNOWN, -1);
        due("BAD_VALUE", StatuteClauses.BAD_VALUE, -2);
        due("FULL", StatuteClauses.FULL, -3);
        due("NOT_POSSIBLE", StatuteClauses.NOT_POSSIBLE, -4);
        due("NONE", StatuteClauses.NONE, -5);
        StatuteClauses x = book();
        for (int what = 0; what <= 8; what++) {
            due("count(" + what + ")", x.count(what), 0);
        }
        for (int k = 0; k < 6; k++) {
            due("first case", x.chapter(k, 0), 0);
            due("last case", x.chapter(k, 1), 99);
            due("rank", x.chapter(k, 2), k);
            due("clauses", x.chapter(k, 3), 0);
            due("in force", x.chapter(k, 4), 0);
            due("ruled", x.chapter(k, 5), 0);
        }
        due("ruling(0, 0, 0)", x.ruling(0, 0, 0), NONE);
        due("painted(99, 999)", x.painted(99, 999), NONE);
        due("clause(0, 0)", x.clause(0, 0), UNKNOWN);
        due("undo()", x.undo(), NONE);
        due("restore()", x.restore(), NONE);
        due("weightiest()", x.weightiest(), NONE);
        due("idle()", x.idle(), 0);
        due("changesOn(0, 0)", x.changesOn(0, 0), NONE);
        x.write(0, 0, 0, 99, 1);
        due("another book's clauses", book().count(1), 0);
    }

    private static void setReach() {
        StatuteClauses x = book();
        due("setReach(2, 10, 20)", x.setReach(2, 10, 20), 99);
        due("setReach(2, 10, 20) again", x.setReach(2, 10, 20), NONE);
        history(x, 1);
        due("setReach(2, 10, 21)", x.setReach(2, 10, 21), 1020);
        due("setReach(2, 11, 21)", x.setReach(2, 11, 21), 1021);
        due("setReach(2, 99, 99)", x.setReach(2, 99, 99), 1121);
        due("setReach(2, 0, 0)", x.setReach(2, 0, 0), 9999);
        due("chapter(2, 0)", x.chapter(2, 0), 0);
        due("chapter(2, 1)", x.chapter(2, 1), 0);
        due("chapter(3, 1)", x.chapter(3, 1), 99);
        history(x, 4);
        due("setReach(-1, -1, -1)", x.setReach(-1, -1, -1), UNKNOWN);
        due("setReach(6, 0, 0)", x.setReach(6, 0, 0), UNKNOWN);
        due("setReach(least)", x.setReach(LEAST, 0, 0), UNKNOWN);
        due("setReach(most)", x.setReach(MOST, 0, 0), UNKNOWN);
        due("setReach(0, -1, 5)", x.setReach(0, -1, 5), BAD_VALUE);
        due("setReach(0, 100, 100)", x.setReach(0, 100, 100), BAD_VALUE);
        due("setReach(0, 5, 4)", x.setReach(0, 5, 4), BAD_VALUE);
        due("setReach(0, 5, 100)", x.setReach(0, 5, 100), BAD_VALUE);
        due("setReach(0, least, most)", x.setReach(0, LEAST, MOST), BAD_VALUE);
        due("setReach(0, 0, 99)", x.setReach(0, 0, 99), NONE);
        due("setReach(5, 0, 98)", x.setReach(5, 0, 98), 99);
        reachHoldsForRulings();
    }

    private static void reachHoldsForRulings() {
        StatuteClauses y = book();
        y.write(0, 0, 10, 30, 4);
        y.setReach(0, 20, 25);
        due("ruling(19, 0, 1)", y.ruling(19, 0, 1), NONE);
        due("ruling(20, 0, 1)", y.ruling(20, 0, 1), 0);
        due("ruling(25, 0, 1)", y.ruling(25, 0, 1), 0);
        due("ruling(26, 0, 1)", y.ruling(26, 0, 1), NONE);
        due("count(3)", y.count(3), 6);
    }

    private static void exchange() {
        StatuteClauses x = book();
        due("exchange(0, 5)", x.exchange(0, 5), 5);
        due("chapter(5, 2)", x.chapter(5, 2), 0);
        due("exchange(0, 1)", x.exchange(0, 1), 1);
        due("chapter(1, 2)", x.chapter(1, 2), 5);
        due("chapter(2, 2)", x.chapter(2, 2), 2);
        history(x, 2);
        due("exchange(3, 3)", x.exchange(3, 3), NONE);
        due("exchange(-1, 0)", x.exchange(-1, 0), UNKNOWN);
        due("exchange(0, 6)", x.exchange(0, 6), UNKNOWN);
        due("exchange(6, 6)", x.exchange(6, 6), UNKNOWN);
        due("exchange(0, least)", x.exchange(0, LEAST), UNKNOWN);
        due("exchange(most, 0)", x.exchange(MOST, 0), UNKNOWN);
        history(x, 2);
        StatuteClauses y = book();
        y.write(2, 0, 7, 7, 1);
        y.write(4, 0, 7, 7, 1);
        due("ruling ahead", y.ruling(7, 0, 1), 1);
        y.exchange(2, 4);
        due("ruling behind", y.ruling(7, 0, 1), 0);
    }

    private static void write() {
        StatuteClauses x = book();
        due("write(-1, -1, -1, -1, -1)", x.write(-1, -1, -1, -1, -1), UNKNOWN);
        due("write(6, 0, 0, 0, 0)", x.write(6, 0, 0, 0, 0), UNKNOWN);
        due("date -1", x.write(0, -1, 0, 0, 0), BAD_VALUE);
        due("date 1000", x.write(0, 1000, 0, 0, 0), BAD_VALUE);
        due("from -1", x.write(0, 0, -1, 0, 0), BAD_VALUE);
        due("from 100", x.write(0, 0, 100, 100, 0), BAD_VALUE);
        due("to ahead of from", x.write(0, 0, 5, 4, 0), BAD_VALUE);
        due("to 100", x.write(0, 0, 5, 100, 0), BAD_VALUE);
        due("verdict -1", x.write(0, 0, 5, 5, -1), BAD_VALUE);
        due("verdict 10", x.write(0, 0, 5, 5, 10), BAD_VALUE);
        due("far values", x.write(MOST, LEAST, MOST, LEAST, MOST), UNKNOWN);
        due("far values of chapter 0", x.write(0, LEAST, LEAST, MOST, MOST), BAD_VALUE);
        history(x, 0);
        due("write(5, 999, 99, 99, 9)", x.write(5, 999, 99, 99, 9), 0);
        due("write(0, 0, 0, 0, 0)", x.write(0, 0, 0, 0, 0), 1);
        int[] told = {5, 999, 1000, 99, 99, 9, 0, 0, 0, 0};
        for (int what = 0; what < 10; what++) {
            due("clause(0, " + what + ")", x.clause(0, what), told[what]);
        }
        for (int k = 2; k < 30; k++) {
            due("write number " + k, x.write(k % 6, k, k, k + 1, 1), k);
        }
        due("the 31st", x.write(0, 0, 0, 0, 1), FULL);
        due("the 31st, bad", x.write(0, 0, 0, 0, 10), BAD_VALUE);
        due("the 31st, unknown", x.write(6, 0, 0, 0, 1), UNKNOWN);
        due("count(1)", x.count(1), 30);
        history(x, 4);
        due("undo()", x.undo(), 3);
        due("write after undo", x.write(0, 0, 0, 0, 1), 29);
    }

    private static void except() {
        StatuteClauses x = book();
        due("except(0, 0, 0)", x.except(0, 0, 0), UNKNOWN);
        x.write(0, 0, 10, 40, 3);
        x.write(0, 0, 60, 60, 3);
        due("except(0, 15, 16)", x.except(0, 15, 16), 1);
        due("except(0, 0, 10)", x.except(0, 0, 10), 2);
        due("bad from", x.except(0, -1, 10), BAD_VALUE);
        due("bad from 100", x.except(0, 100, 100), BAD_VALUE);
        due("bad to", x.except(0, 10, 9), BAD_VALUE);
        due("bad to 100", x.except(0, 10, 100), BAD_VALUE);
        due("except(2, ..)", x.except(2, 10, 9), UNKNOWN);
        due("except(-1, ..)", x.except(-1, 1, 1), UNKNOWN);
        due("except(least, ..)", x.except(LEAST, 1, 1), UNKNOWN);
        due("except(most, ..)", x.except(MOST, 1, 1), UNKNOWN);
        history(x, 4);
        due("except(0, 40, 99)", x.except(0, 40, 99), 3);
        due("a fourth one", x.except(0, 20, 20), FULL);
        due("a fourth one, bad", x.except(0, 20, 19), BAD_VALUE);
        due("clause(0, 6)", x.clause(0, 6), 3);
        due("the same twice", x.except(1, 1, 1) + x.except(1, 1, 1), 3);
        int[] cases = {10, 11, 14, 15, 16, 17, 20, 39, 40};
        int[] ruled = {NONE, 0, 0, NONE, NONE, 0, 0, 0, NONE};
        for (int i = 0; i < cases.length; i++) {
            due("ruling of " + cases[i], x.ruling(cases[i], 0, 1), ruled[i]);
        }
        due("clause(0, 9)", x.clause(0, 9), 27);
    }

    private static void end() {
        StatuteClauses x = book();
        due("end(0, 5)", x.end(0, 5), UNKNOWN);
        x.write(0, 5, 10, 10, 3);
        due("end(0, 0)", x.end(0, 0), BAD_VALUE);
        due("end(0, 1001)", x.end(0, 1001), BAD_VALUE);
        due("end(0, least)", x.end(0, LEAST), BAD_VALUE);
        due("end(0, most)", x.end(0, MOST), BAD_VALUE);
        due("end(-1, 0)", x.end(-1, 0), UNKNOWN);
        due("end(1, 0)", x.end(1, 0), UNKNOWN);
        due("end(0, 1)", x.end(0, 1), NOT_POSSIBLE);
        due("end(0, 5)", x.end(0, 5), NOT_POSSIBLE);
        due("end(0, 1000) so already", x.end(0, 1000), NONE);
        history(x, 1);
        due("end(0, 6)", x.end(0, 6), 1000);
        due("end(0, 6) so already", x.end(0, 6), NONE);
        due("in force on 5", x.ruling(10, 5, 1), 0);
        due("ended on 6", x.ruling(10, 6, 1), NONE);
        due("end(0, 999)", x.end(0, 999), 6);
        due("in force on 998", x.ruling(10, 998, 1), 0);
        due("ended on 999", x.ruling(10, 999, 1), NONE);
        due("end(0, 1000)", x.end(0, 1000), 999);
        due("never ends", x.ruling(10, 999, 1), 0);
        due("clause(0, 2)", x.clause(0, 2), 1000);
        history(x, 4);
        x.write(0, 999, 10, 10, 3);
        due("end(1, 999)", x.end(1, 999), NOT_POSSIBLE);
        due("end(1, 1000)", x.end(1, 1000), NONE);
        x.write(0, 0, 1, 1, 1);
        due("end(2, 1)", x.end(2, 1), 1000);
    }

    private static void setDay() {
        StatuteClauses x = book();
        due("setDay(0)", x.setDay(0), NONE);
        due("setDay(-1)", x.setDay(-1), BAD_VALUE);
        due("setDay(1000)", x.setDay(1000), BAD_VALUE);
        due("setDay(least)", x.setDay(LEAST), BAD_VALUE);
        due("setDay(most)", x.setDay(MOST), BAD_VALUE);
        history(x, 0);
        due("setDay(7), nothing changes", x.setDay(7), 0);
        history(x, 1);
        due("count(0)", x.count(0), 7);
        x.write(0, 10, 0, 9, 1);
        x.write(0, 20, 5, 14, 1);
        x.write(0, 30, 5, 6, 0);
        due("setDay(10)", x.setDay(10), 10);
        due("setDay(20), alike verdicts", x.setDay(20), 10);
        due("setDay(30)", x.setDay(30), 2);
        due("setDay(999)", x.setDay(999), 0);
        due("setDay(0), back", x.setDay(0), 13);
        due("setDay(0), so already", x.setDay(0), NONE);
        due("undo()", x.undo(), 3);
        due("count(0) after undo", x.count(0), 999);
    }

    private static void type() {
        StatuteClauses x = book();
        for (int i = 1; i <= 80; i++) {
            due("type number " + i, x.type((char) (i * 811)), i);
        }
        due("the 81st", x.type('0'), FULL);
        due("count(8)", x.count(8), 80);
        due("undo()", x.undo(), NONE);
        due("count(7)", x.count(7), 0);
        due("fault of strange signs", x.writeAll(), -100);
        due("clearText()", x.clearText(), 80);
        due("type(0)", x.type((char) 0), 1);
        due("type(65535)", x.type((char) 65535), 2);
        due("fault of sign 0", x.writeAll(), -100);
    }

    private static void clearText() {
        StatuteClauses x = book();
        due("clearText()", x.clearText(), 0);
        typeAll(x, "0@0:0-0=0");
        x.write(0, 0, 0, 0, 1);
        x.keep();
        x.undo();
        x.restore();
        due("the text is no part of a state", x.count(8), 9);
        due("clearText()", x.clearText(), 9);
        due("clearText() again", x.clearText(), 0);
        due("count(8)", x.count(8), 0);
        history(x, 1);
        due("the empty text", x.writeAll(), -100);
    }

    private static void writeAll() {
        StatuteClauses x = book();
        due("three clauses", written(x, "0@0:0-9=5!1-1,3-4,9-9;5@999:99-99=9;2@10:7-8=0!0-99"), 3);
        history(x, 1);
        due("count(8)", x.count(8), 51);
        int[] first = {0, 0, 1000, 0, 9, 5, 3, 1, 6, 6};
        for (int what = 0; what < 10; what++) {
            due("clause(0, " + what + ")", x.clause(0, what), first[what]);
        }
        due("clause(1, 1)", x.clause(1, 1), 999);
        due("clause(1, 3)", x.clause(1, 3), 99);
        due("clause(1, 6)", x.clause(1, 6), 0);
        due("clause(2, 0)", x.clause(2, 0), 2);
        due("clause(2, 4)", x.clause(2, 4), 8);
        due("count(5)", x.count(5), 4);
        due("the text stays", x.writeAll(), 3);
        due("count(1)", x.count(1), 6);
        due("undo()", x.undo(), 1);
        due("undo() takes all three", x.count(1), 3);
        writeAllRoom();
        writeAllSpans();
        writeAllFaults();
        writeAllAfterOthers();
    }

    private static void writeAllRoom() {
        StatuteClauses x = book();
        for (int k = 0; k < 28; k++) {
            x.write(0, 0, 0, 0, 1);
        }
        due("three of room for two", written(x, "0@0:0-0=0;0@0:0-0=0;0@0:0-0=0"), FULL);
        due("none was written", x.count(1), 28);
        due("a bad span goes first", written(x, "0@0:0-0=0;0@0:0-0=0;0@0:1-0=0"), BAD_VALUE);
        due("a fault goes first", written(x, "0@0:0-0=0;0@0:1-0=0;0@0:1-0=0x"), -129);
        history(x, 4);
        due("two of room for two", written(x, "0@0:0-0=0;0@0:0-0=0"), 2);
        due("count(1)", x.count(1), 30);
        due("one of room for none", written(x, "0@0:0-0=0"), FULL);
        StatuteClauses y = book();
        due("eight clauses", written(y, "0@0:0-0=0;1@0:0-0=0;2@0:0-0=0;3@0:0-0=0;4@0:0-0=0;5@0:0-0=0;0@0:0-0=0;1@0:0-0=0"), 8);
        due("the last one", y.clause(7, 0), 1);
        due("a sign behind them", y.type(';'), 80);
        due("ends too early at 80", y.writeAll(), -180);
    }

    private static void writeAllSpans() {
        textDue("0@0:6-5=1", BAD_VALUE);
        textDue("0@0:5-5=1", 1);
        textDue("0@0:10-9=1", BAD_VALUE);
        textDue("0@0:0-9=1!2-1", BAD_VALUE);
        textDue("0@0:0-9=1!1-1,2-1", BAD_VALUE);
        textDue("0@0:0-9=1!1-1,1-1,99-1", BAD_VALUE);
        textDue("0@0:0-0=1;0@0:6-5=1", BAD_VALUE);
        textDue("0@0:6-5=1x", -109);
        StatuteClauses x = book();
        written(x, "0@0:0-0=1;0@0:6-5=1");
        due("all or none", x.count(1), 0);
        history(x, 0);
    }

    private static void writeAllFaults() {
        String whole = "5@999:12-34=9!1-19,2-29,3-39;0@0:0-99=0!0-0";
        textDue(whole, 2);
        for (int length = 0; length < whole.length(); length++) {
            String part = whole.substring(0, length);
            boolean one = length == 13 || length == 17 || length == 18 || length == 22
                || length == 23 || length == 27 || length == 28;
            boolean two = length == 39;
            textDue(part, one ? 1 : two ? 2 : -100 - length);
            textDue(part + "x", -100 - length);
            textDue(part + (char) 0, -100 - length);
            textDue(part + " ", -100 - length);
        }
        textDue("6@", -100);
        textDue("9", -100);
        textDue("-", -100);
        textDue("00@", -101);
        textDue("10@", -101);
        textDue("0@1000", -105);
        textDue("0@999:", -106);
        textDue("0@01", -103);
        textDue("0@00", -103);
        textDue("0@:", -102);
        textDue("0@5:100", -106);
        textDue("0@5:05", -105);
        textDue("0@5:0-100", -108);
        textDue("0@5:0-00", -107);
        textDue("0@5:0-1=10", -109);
        textDue("0@5:0-1=00", -109);
        textDue("0@5:0-1=:", -108);
        textDue("0@5:0-1=/", -108);
        textDue("0@5:0-1=1!!", -110);
        textDue("0@5:0-1=1!,", -110);
        textDue("0@5:0-1=1!1-2;", -114);
        textDue("0@5:0-1=1!1-2,", -114);
        textDue("0@5:0-1=1!1-2!", -113);
        textDue("0@5:0-1=1!1-2,3-4,5-6,", -121);
        textDue("0@5:0-1=1!1-2,3-4,5-6;", -122);
        textDue("0@5:0-1=1,", -109);
        textDue("0@5:0-1=1;;", -110);
        textDue(";", -100);
        textDue("19@", -101);
        textDue("0@1009:", -105);
        textDue("0@5:109-", -106);
        textDue("0@5:0-109", -108);
        textDue("0@5:0-1=19", -109);
        StatuteClauses x = book();
        written(x, "0@0:0-0=0x");
        history(x, 0);
        due("count(1)", x.count(1), 0);
    }

    /** What an earlier text left must not be read again. */
    private static void writeAllAfterOthers() {
        StatuteClauses x = book();
        due("a whole text", written(x, "0@0:0-0=0"), 1);
        due("its beginning alone", written(x, "0@0"), -103);
        due("its beginning with a sign", written(x, "0@0:"), -104);
        due("a reversed exception", written(x, "0@0:0-9=1!2-1"), BAD_VALUE);
        due("none", written(x, "0@0:0-9=1"), 1);
        due("clause(1, 6)", x.clause(1, 6), 0);
        due("count(1)", x.count(1), 2);
    }

    private static void undo() {
        StatuteClauses x = book();
        due("undo()", x.undo(), NONE);
        x.write(0, 1, 0, 9, 1);
        x.except(0, 3, 3);
        x.end(0, 9);
        x.setReach(0, 1, 8);
        x.exchange(0, 3);
        x.setDay(2);
        history(x, 4);
        due("undo() of setDay", x.undo(), 3);
        due("today", x.count(0), 0);
        due("undo() of exchange", x.undo(), 2);
        due("rank", x.chapter(0, 2), 0);
        due("other rank", x.chapter(3, 2), 3);
        due("undo() of setReach", x.undo(), 1);
        due("first case", x.chapter(0, 0), 0);
        due("last case", x.chapter(0, 1), 99);
        due("undo() of end", x.undo(), 0);
        due("end", x.clause(0, 2), 1000);
        due("exceptions", x.clause(0, 6), 1);
        due("excepted", x.ruling(3, 1, 1), NONE);
        due("undo() of nothing", x.undo(), NONE);
        due("clauses stay", x.count(1), 1);
        x.except(0, 5, 5);
        due("undo() of except", x.undo(), 0);
        due("no longer excepted", x.ruling(5, 1, 1), 0);
        due("exceptions", x.clause(0, 6), 1);
        x.write(1, 0, 0, 0, 1);
        x.undo();
        due("undone clause", x.clause(1, 0), UNKNOWN);
        failuresRecordNothing();
        undoGoesBackInOrder();
        undoneClausesLeaveNothing();
    }

    private static void undoGoesBackInOrder() {
        StatuteClauses x = book();
        for (int day = 1; day <= 9; day++) {
            x.setDay(day);
        }
        for (int left = 3; left >= 0; left--) {
            due("undo()", x.undo(), left);
            due("today", x.count(0), left + 5);
        }
        due("undo()", x.undo(), NONE);
        x.setDay(17);
        due("undo()", x.undo(), 0);
        due("today", x.count(0), 5);
    }

    private static void undoneClausesLeaveNothing() {
        StatuteClauses x = book();
        x.write(2, 0, 0, 9, 0);
        x.except(0, 3, 4);
        x.undo();
        x.undo();
        due("clauses of chapter 2", x.chapter(2, 3), 0);
        due("of them in force", x.chapter(2, 4), 0);
        for (int what = 0; what <= 8; what++) {
            due("count(" + what + ")", x.count(what), 0);
        }
        due("changesOn(0, 0)", x.changesOn(0, 0), NONE);
        written(x, "2@0:0-9=0!3-4");
        x.undo();
        due("count(5)", x.count(5), 0);
        x.write(3, 1, 0, 9, 5);
        due("exceptions of the next one", x.clause(0, 6), 0);
        due("its ruling", x.ruling(3, 1, 1), 0);
    }

    private static void failuresRecordNothing() {
        StatuteClauses x = book();
        x.setReach(9, 0, 0);
        x.setReach(0, 0, 99);
        x.exchange(0, 0);
        x.write(0, 0, 3, 2, 1);
        x.except(0, 0, 0);
        x.end(0, 7);
        x.setDay(0);
        x.writeAll();
        x.restore();
        x.keep();
        x.type('0');
        x.clearText();
        x.idle();
        x.painted(0, 0);
        history(x, 0);
        due("undo()", x.undo(), NONE);
    }

    private static void keep() {
        StatuteClauses x = book();
        due("keep()", x.keep(), 0);
        x.write(0, 0, 0, 9, 1);
        x.write(0, 0, 0, 9, 1);
        due("keep()", x.keep(), 2);
        history(x, 2);
        x.undo();
        due("undo() does not touch the snapshot", x.restore(), 2);
        x.except(0, 0, 9);
        x.end(1, 7);
        x.restore();
        due("acts do not touch the snapshot: exceptions", x.clause(0, 6), 0);
        due("acts do not touch the snapshot: end", x.clause(1, 2), 1000);
        x.undo();
        due("exceptions again", x.clause(0, 6), 1);
        due("keep() in place of the old one", x.keep(), 2);
        x.undo();
        x.restore();
        due("exceptions of the new snapshot", x.clause(0, 6), 1);
    }

    private static void restore() {
        StatuteClauses x = book();
        due("restore()", x.restore(), NONE);
        history(x, 0);
        x.setDay(3);
        x.setReach(4, 1, 2);
        x.exchange(4, 5);
        x.write(4, 0, 0, 9, 1);
        x.keep();
        due("restore() of the same state is an act", x.restore(), 1);
        due("undo() of it", x.undo(), 3);
        x.setDay(9);
        x.setReach(4, 0, 99);
        x.exchange(4, 0);
        x.write(4, 0, 0, 9, 1);
        due("restore()", x.restore(), 1);
        history(x, 4);
        due("today", x.count(0), 3);
        due("first case", x.chapter(4, 0), 1);
        due("last case", x.chapter(4, 1), 2);
        due("rank", x.chapter(4, 2), 5);
        due("other rank", x.chapter(5, 2), 4);
        due("third rank", x.chapter(0, 2), 0);
        due("undo()", x.undo(), 3);
        due("clauses", x.count(1), 2);
        due("today", x.count(0), 9);
        due("the snapshot stays", x.restore(), 1);
        restoreBringsWholeClauses();
    }

    private static void restoreBringsWholeClauses() {
        StatuteClauses x = book();
        x.write(2, 7, 10, 40, 6);
        x.except(0, 20, 25);
        x.end(0, 70);
        x.keep();
        x.undo();
        x.undo();
        x.undo();
        x.write(3, 8, 50, 90, 0);
        x.except(0, 60, 61);
        x.except(0, 70, 71);
        due("restore()", x.restore(), 1);
        int[] told = {2, 7, 70, 10, 40, 6, 1};
        for (int what = 0; what < told.length; what++) {
            due("clause(0, " + what + ")", x.clause(0, what), told[what]);
        }
        due("ahead of the exception", x.ruling(19, 7, 1), 0);
        due("the exception's first", x.ruling(20, 7, 1), NONE);
        due("the exception's last", x.ruling(25, 7, 1), NONE);
        due("behind the exception", x.ruling(26, 7, 1), 0);
        x.undo();
        int[] other = {3, 8, 1000, 50, 90, 0, 2};
        for (int what = 0; what < other.length; what++) {
            due("clause(0, " + what + ") after undo()", x.clause(0, what), other[what]);
        }
    }

    /** Clauses that several of the next promises are held against, on day 50. */
    private static StatuteClauses sample() {
        StatuteClauses x = book();
        x.write(1, 10, 0, 49, 1);   // 0
        x.write(1, 20, 10, 29, 2);  // 1
        x.write(1, 20, 20, 24, 0);  // 2
        x.write(3, 0, 5, 12, 2);    // 3
        x.write(3, 60, 0, 99, 7);   // 4: not yet
        x.write(5, 0, 80, 89, 4);   // 5: ended
        x.write(0, 30, 0, 99, 9);   // 6
        x.write(1, 15, 26, 26, 5);  // 7: older than 1
        x.end(5, 50);
        x.except(1, 28, 29);
        x.setReach(0, 40, 59);
        x.setDay(50);
        return x;
    }

    private static void chapter() {
        StatuteClauses x = sample();
        due("chapter(0, 0)", x.chapter(0, 0), 40);
        due("chapter(0, 1)", x.chapter(0, 1), 59);
        due("chapter(3, 2)", x.chapter(3, 2), 3);
        int[] clauses = {1, 4, 0, 2, 0, 1};
        int[] inForce = {1, 4, 0, 1, 0, 0};
        int[] ruled = {10, 37, 0, 8, 0, 0};
        for (int k = 0; k < 6; k++) {
            due("chapter(" + k + ", 3)", x.chapter(k, 3), clauses[k]);
            due("chapter(" + k + ", 4)", x.chapter(k, 4), inForce[k]);
            due("chapter(" + k + ", 5)", x.chapter(k, 5), ruled[k]);
        }
        due("chapter(-1, 0)", x.chapter(-1, 0), UNKNOWN);
        due("chapter(6, 9)", x.chapter(6, 9), UNKNOWN);
        due("chapter(0, 6)", x.chapter(0, 6), BAD_VALUE);
        due("chapter(0, -1)", x.chapter(0, -1), BAD_VALUE);
        due("chapter(0, least)", x.chapter(0, LEAST), BAD_VALUE);
        due("chapter(most, 0)", x.chapter(MOST, 0), UNKNOWN);
    }

    private static void clause() {
        StatuteClauses x = sample();
        int[][] told = {
            {1, 10, 1000, 0, 49, 1, 0, 1, 32, 27},
            {1, 20, 1000, 10, 29, 2, 1, 1, 13, 10},
            {1, 20, 1000, 20, 24, 0, 0, 1, 0, 0},
            {3, 0, 1000, 5, 12, 2, 0, 1, 8, 8},
            {3, 60, 1000, 0, 99, 7, 0, 0, 0, 0},
            {5, 0, 50, 80, 89, 4, 0, 0, 0, 0},
            {0, 30, 1000, 0, 99, 9, 0, 1, 20, 10},
            {1, 15, 1000, 26, 26, 5, 0, 1, 0, 0},
        };
        for (int k = 0; k < told.length; k++) {
            for (int what = 0; what < 10; what++) {
                due("clause(" + k + ", " + what + ")", x.clause(k, what), told[k][what]);
            }
        }
        due("clause(-1, 0)", x.clause(-1, 0), UNKNOWN);
        due("clause(8, 10)", x.clause(8, 10), UNKNOWN);
        due("clause(0, 10)", x.clause(0, 10), BAD_VALUE);
        due("clause(0, -1)", x.clause(0, -1), BAD_VALUE);
        due("clause(0, most)", x.clause(0, MOST), BAD_VALUE);
        due("clause(least, 0)", x.clause(LEAST, 0), UNKNOWN);
    }

    private static final int[] CASES = {0, 4, 5, 9, 10, 12, 13, 19, 20, 22, 24, 25, 26, 28, 29, 30, 39, 40, 49, 50, 59, 60, 85, 99};
    private static final int[] RULERS = {0, 0, 3, 3, 3, 3, 1, 1, NONE, NONE, NONE, 1, 1, 0, 0, 0, 0, 0, 0, 6, 6, NONE, NONE, NONE};

    private static void ruling() {
        StatuteClauses x = sample();
        int[] verdicts = {1, 2, 0, 2, 7, 4, 9, 5};
        int[] chapters = {1, 1, 1, 3, 3, 5, 0, 1};
        for (int i = 0; i < CASES.length; i++) {
            int ruler = RULERS[i];
            due("ruling(" + CASES[i] + ", 50, 1)", x.ruling(CASES[i], 50, 1), ruler);
            due("ruling(" + CASES[i] + ", 50, 0)", x.ruling(CASES[i], 50, 0), ruler < 0 ? NONE : verdicts[ruler]);
            due("ruling(" + CASES[i] + ", 50, 2)", x.ruling(CASES[i], 50, 2), ruler < 0 ? NONE : chapters[ruler]);
        }
        due("ruling(85, 49, 1)", x.ruling(85, 49, 1), 5);
        due("ruling(26, 19, 1)", x.ruling(26, 19, 1), 7);
        due("ruling(26, 14, 1)", x.ruling(26, 14, 1), 0);
        due("ruling(22, 60, 2)", x.ruling(22, 60, 2), 3);
        due("ruling(-1, 0, 9)", x.ruling(-1, 0, 9), UNKNOWN);
        due("ruling(100, 0, 0)", x.ruling(100, 0, 0), UNKNOWN);
        due("ruling(0, -1, 0)", x.ruling(0, -1, 0), UNKNOWN);
        due("ruling(0, 1000, 3)", x.ruling(0, 1000, 3), UNKNOWN);
        due("ruling(0, 0, 3)", x.ruling(0, 0, 3), BAD_VALUE);
        due("ruling(0, 0, -1)", x.ruling(0, 0, -1), BAD_VALUE);
        due("ruling(0, 0, 0)", x.ruling(0, 0, 0), NONE);
        due("ruling(most, least, 0)", x.ruling(MOST, LEAST, 0), UNKNOWN);
    }

    private static void painted() {
        StatuteClauses x = sample();
        for (int i = 0; i < CASES.length; i++) {
            due("painted(" + CASES[i] + ", 50)", x.painted(CASES[i], 50), RULERS[i]);
        }
        due("painted(85, 49)", x.painted(85, 49), 5);
        due("painted(26, 19)", x.painted(26, 19), 7);
        due("painted(26, 20)", x.painted(26, 20), 1);
        due("painted(22, 60)", x.painted(22, 60), 4);
        x.exchange(1, 3);
        due("painted(5, 50), ranks exchanged", x.painted(5, 50), 0);
        StatuteClauses y = book();
        y.write(0, 9, 0, 9, 1);
        y.write(0, 5, 0, 9, 1);
        y.write(0, 7, 0, 9, 1);
        due("painted(0, 9), the latest date first", y.painted(0, 9), 0);
        due("painted(0, 8)", y.painted(0, 8), 2);
        due("painted(0, 6)", y.painted(0, 6), 1);
        due("painted(-1, 0)", x.painted(-1, 0), UNKNOWN);
        due("painted(100, 0)", x.painted(100, 0), UNKNOWN);
        due("painted(0, -1)", x.painted(0, -1), UNKNOWN);
        due("painted(0, 1000)", x.painted(0, 1000), UNKNOWN);
        due("painted(least, most)", x.painted(LEAST, MOST), UNKNOWN);
    }

    private static void silencedBy() {
        StatuteClauses x = sample();
        due("by the later date", x.silencedBy(0, 12, 50), 1);
        due("by the greater number", x.silencedBy(1, 22, 50), 2);
        due("by the latest of three", x.silencedBy(0, 22, 50), 2);
        due("by a lower number of a later date", x.silencedBy(7, 26, 50), 1);
        due("one that itself is silenced does not count", x.silencedBy(0, 26, 50), 1);
        due("one that is in force alone silences", x.silencedBy(0, 26, 19), 7);
        due("the one that speaks", x.silencedBy(1, 12, 50), NONE);
        due("the silent one", x.silencedBy(2, 22, 50), NONE);
        due("another chapter does not silence", x.silencedBy(0, 5, 50), NONE);
        due("not in force yet", x.silencedBy(0, 12, 9), NONE);
        due("ended", x.silencedBy(5, 85, 50), NONE);
        due("an exception does not meet", x.silencedBy(1, 28, 50), NONE);
        due("an exception does not silence", x.silencedBy(0, 28, 50), NONE);
        due("behind the span", x.silencedBy(2, 25, 50), NONE);
        due("beyond the reach", x.silencedBy(6, 39, 50), NONE);
        due("silencedBy(8, 0, 0)", x.silencedBy(8, 0, 0), UNKNOWN);
        due("silencedBy(-1, 0, 0)", x.silencedBy(-1, 0, 0), UNKNOWN);
        due("silencedBy(0, -1, 0)", x.silencedBy(0, -1, 0), UNKNOWN);
        due("silencedBy(0, 100, 0)", x.silencedBy(0, 100, 0), UNKNOWN);
        due("silencedBy(0, 0, -1)", x.silencedBy(0, 0, -1), UNKNOWN);
        due("silencedBy(0, 0, 1000)", x.silencedBy(0, 0, 1000), UNKNOWN);
    }

    private static void reason() {
        StatuteClauses x = sample();
        due("rules", x.reason(0, 0, 50), 0);
        due("later", x.reason(4, 0, 59), 1);
        due("on its date", x.reason(4, 0, 60), 0);
        due("ended", x.reason(5, 85, 50), 2);
        due("the day ahead of its end", x.reason(5, 85, 49), 0);
        due("ended goes ahead of the span", x.reason(5, 0, 50), 2);
        due("later goes ahead of the reach", x.reason(6, 0, 29), 1);
        due("not reached", x.reason(6, 39, 50), 3);
        due("not reached, behind", x.reason(6, 60, 50), 3);
        due("not in the span", x.reason(1, 30, 50), 4);
        due("not in the span, ahead", x.reason(1, 9, 50), 4);
        due("excepted", x.reason(1, 28, 50), 5);
        due("silenced", x.reason(1, 20, 50), 6);
        due("says nothing", x.reason(2, 20, 50), 7);
        due("a greater rank", x.reason(1, 12, 50), 8);
        due("a greater rank, over chapter 0", x.reason(6, 40, 50), 8);
        x.setReach(1, 0, 9);
        due("reach goes ahead of the span", x.reason(1, 30, 50), 3);
        x.except(0, 60, 70);
        x.setReach(1, 0, 99);
        due("span goes ahead of the exception", x.reason(0, 65, 50), 4);
        x.write(1, 20, 20, 24, 0);
        due("silenced goes ahead of saying nothing", x.reason(2, 20, 50), 6);
        due("reason(9, 0, 0)", x.reason(9, 0, 0), UNKNOWN);
        due("reason(-1, 0, 0)", x.reason(-1, 0, 0), UNKNOWN);
        due("reason(0, 100, 0)", x.reason(0, 100, 0), UNKNOWN);
        due("reason(0, -1, 0)", x.reason(0, -1, 0), UNKNOWN);
        due("reason(0, 0, 1000)", x.reason(0, 0, 1000), UNKNOWN);
        due("reason(0, 0, -1)", x.reason(0, 0, -1), UNKNOWN);
    }

    private static void changesOn() {
        StatuteClauses x = sample();
        due("changesOn(26, 0)", x.changesOn(26, 0), 10);
        due("changesOn(26, 9)", x.changesOn(26, 9), 10);
        due("changesOn(26, 10)", x.changesOn(26, 10), 15);
        due("changesOn(26, 15)", x.changesOn(26, 15), 20);
        due("changesOn(26, 20)", x.changesOn(26, 20), 60);
        due("changesOn(26, 60)", x.changesOn(26, 60), NONE);
        due("no change under a greater rank", x.changesOn(12, 0), 60);
        due("to none", x.changesOn(22, 10), 20);
        due("from none", x.changesOn(22, 20), 60);
        due("an end", x.changesOn(85, 0), 50);
        due("changesOn(85, 50)", x.changesOn(85, 50), 60);
        due("changesOn(0, 999)", x.changesOn(0, 999), NONE);
        StatuteClauses y = book();
        y.write(0, 0, 3, 3, 6);
        y.write(0, 7, 3, 3, 6);
        due("alike verdicts do not matter", y.changesOn(3, 0), 7);
        due("a clause of day 0 changes nothing behind it", y.changesOn(3, 7), NONE);
        y.end(1, 999);
        due("the last day", y.changesOn(3, 7), 999);
        y.write(1, 20, 3, 3, 6);
        y.end(2, 30);
        y.write(1, 30, 3, 3, 6);
        due("one ends as another begins", y.changesOn(3, 20), 30);
        due("changesOn(-1, 0)", x.changesOn(-1, 0), UNKNOWN);
        due("changesOn(100, 0)", x.changesOn(100, 0), UNKNOWN);
        due("changesOn(0, -1)", x.changesOn(0, -1), UNKNOWN);
        due("changesOn(0, 1000)", x.changesOn(0, 1000), UNKNOWN);
        due("changesOn(most, most)", x.changesOn(MOST, MOST), UNKNOWN);
    }

    private static void unlike() {
        StatuteClauses x = sample();
        due("unlike(1, 3): 5 to 9, alike on 10 to 12", x.unlike(1, 3), 5);
        due("unlike(3, 1)", x.unlike(3, 1), 5);
        due("unlike(0, 1)", x.unlike(0, 1), 10);
        due("unlike(0, 3)", x.unlike(0, 3), 0);
        due("one that says nothing is not unlike", x.unlike(1, 2), 0);
        x.setDay(60);
        due("unlike(1, 3) on 60", x.unlike(1, 3), 45);
        due("unlike(2, 2)", x.unlike(2, 2), BAD_VALUE);
        due("unlike(6, 6)", x.unlike(6, 6), UNKNOWN);
        due("unlike(-1, 0)", x.unlike(-1, 0), UNKNOWN);
        due("unlike(0, 6)", x.unlike(0, 6), UNKNOWN);
        due("unlike(least, most)", x.unlike(LEAST, MOST), UNKNOWN);
    }

    private static void idle() {
        StatuteClauses x = sample();
        due("idle(): the silent one alone", x.idle(), 1 << 2);
        x.setReach(5, 0, 79);
        due("beyond the reach", x.idle(), (1 << 2) | (1 << 5));
        x.write(1, 15, 26, 26, 5);
        due("silenced from the first day on", x.idle(), (1 << 2) | (1 << 5) | (1 << 7));
        x.except(8, 26, 26);
        due("excepted", x.idle(), (1 << 2) | (1 << 5) | (1 << 8));
        StatuteClauses y = book();
        y.write(0, 0, 3, 3, 1);
        y.write(1, 0, 3, 3, 1);
        due("under a greater rank", y.idle(), 1);
        y.end(1, 999);
        due("rules on the last day alone", y.idle(), 0);
        y.setDay(5);
        due("today does not matter", y.idle(), 0);
        StatuteClauses ends = book();
        ends.write(0, 0, 0, 0, 1);
        ends.write(1, 0, 99, 99, 1);
        due("one rules the first case alone, one the last", ends.idle(), 0);
        StatuteClauses z = book();
        for (int k = 0; k < 30; k++) {
            z.write(0, 0, 0, 99, 0);
        }
        due("all thirty", z.idle(), (1 << 30) - 1);
        z.setReach(0, 0, 0);
        history(z, 4);
        due("count(6) of thirty", z.count(6), 30);
    }

    private static void ifGone() {
        StatuteClauses x = sample();
        int[] others = {27, 10, 5, 8, 0, 0, 10, 0};
        for (int k = 0; k < others.length; k++) {
            due("ifGone(" + k + ")", x.ifGone(k), others[k]);
        }
        due("ifGone(-1)", x.ifGone(-1), UNKNOWN);
        due("ifGone(8)", x.ifGone(8), UNKNOWN);
        due("ifGone(least)", x.ifGone(LEAST), UNKNOWN);
        due("ifGone(most)", x.ifGone(MOST), UNKNOWN);
        due("nothing was changed", x.count(1), 8);
        history(x, 4);
    }

    private static void weightiest() {
        StatuteClauses x = sample();
        due("weightiest()", x.weightiest(), 0);
        x.setDay(60);
        due("weightiest() on 60", x.weightiest(), 4);
        StatuteClauses y = book();
        y.write(0, 0, 10, 19, 0);
        due("nothing is said", y.weightiest(), NONE);
        y.write(1, 0, 10, 19, 1);
        y.write(1, 0, 30, 39, 1);
        due("of several the lowest", y.weightiest(), 1);
        y.except(1, 12, 12);
        due("the later one", y.weightiest(), 2);
        y.end(1, 1);
        y.end(2, 1);
        y.setDay(1);
        due("no case has a ruling", y.weightiest(), NONE);
        StatuteClauses z = book();
        for (int k = 0; k < 30; k++) {
            z.write(k % 6, 0, k, k, 1);
        }
        due("all alike in a full book", z.weightiest(), 0);
        due("cases that have a ruling", z.count(3), 30);
        due("cases that chapter 5 rules", z.chapter(5, 5), 5);
        z.except(0, 0, 0);
        due("a single case is enough", z.weightiest(), 1);
        z.setReach(5, 99, 99);
        due("its ruled cases", z.clause(29, 9), 0);
        due("ifGone(28)", z.ifGone(28), 1);
        due("idle()", z.idle(), 1 | 1 << 5 | 1 << 11 | 1 << 17 | 1 << 23 | 1 << 29);
    }

    private static void count() {
        StatuteClauses x = sample();
        typeAll(x, "abc");
        int[] told = {50, 8, 6, 55, 73, 1, 1, 4, 3};
        for (int what = 0; what < told.length; what++) {
            due("count(" + what + ")", x.count(what), told[what]);
        }
        due("count(-1)", x.count(-1), BAD_VALUE);
        due("count(9)", x.count(9), BAD_VALUE);
        due("count(least)", x.count(LEAST), BAD_VALUE);
        due("count(most)", x.count(MOST), BAD_VALUE);
    }

    public static void main(String[] args) {
        Runnable[] tests = {
            PromisesTest::newObject, PromisesTest::setReach, PromisesTest::exchange, PromisesTest::write,
            PromisesTest::except, PromisesTest::end, PromisesTest::setDay, PromisesTest::type,
            PromisesTest::clearText, PromisesTest::writeAll, PromisesTest::undo, PromisesTest::keep,
            PromisesTest::restore, PromisesTest::chapter, PromisesTest::clause, PromisesTest::ruling,
            PromisesTest::painted, PromisesTest::silencedBy, PromisesTest::reason, PromisesTest::changesOn,
            PromisesTest::unlike, PromisesTest::idle, PromisesTest::ifGone, PromisesTest::weightiest,
            PromisesTest::count,
        };
        for (int i = 0; i < tests.length; i++) {
            run("promise " + (i + 1), tests[i]);
        }
        finish();
    }
}
