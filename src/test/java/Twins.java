import java.util.ArrayList;
import java.util.List;
import java.util.function.Consumer;
import java.util.function.ToIntFunction;

/**
 * Holds a book against its twin, which was made in the same way but for one call. A book answers for 512 calls
 * alone, so that each look is taken at a new pair of twins.
 */
final class Twins {
    private static final int LOOK = 360;
    private static final int[] DAYS = {0, 20, 999};

    private Twins() {
    }

    /** Two snapshots' worth of acts, a full history, a text that may be written; today is 20, four clauses. */
    static void rich(StatuteClauses x) {
        x.write(1, 10, 0, 49, 1);
        x.write(1, 20, 10, 29, 2);
        x.except(1, 12, 13);
        x.except(1, 20, 20);
        x.except(1, 25, 29);
        x.setReach(3, 5, 94);
        x.keep();
        x.exchange(1, 4);
        x.write(3, 5, 0, 99, 7);
        x.end(0, 50);
        x.except(2, 60, 70);
        x.write(0, 0, 0, 99, 0);
        x.setDay(20);
        Dues.typeAll(x, "2@7:3-4=5!3-3;0@9:9-9=0");
    }

    /** The rich book with two states in the history: three clauses, today is 0. */
    static void rewound(StatuteClauses x) {
        rich(x);
        x.undo();
        x.undo();
    }

    /** A book with 30 clauses. */
    static void full(StatuteClauses x) {
        for (int k = 0; k < 30; k++) {
            x.write(k % 6, k, k, 99 - k, k % 10);
        }
    }

    /** A call that is no act, or that is refused: the answer is as due, and nothing is changed. */
    static void same(String call, Consumer<StatuteClauses> setup, ToIntFunction<StatuteClauses> made, int want) {
        StatuteClauses one = new StatuteClauses();
        setup.accept(one);
        Dues.due(call, made.applyAsInt(one), want);
        compare(call, setup.andThen(made::applyAsInt), setup);
    }

    /** An act: it answers as is due, records one state, and undo() takes it back. The history has room. */
    static void act(String call, Consumer<StatuteClauses> setup, ToIntFunction<StatuteClauses> made, int want) {
        StatuteClauses one = new StatuteClauses();
        setup.accept(one);
        int states = one.count(7);
        Dues.due(call, made.applyAsInt(one), want);
        Dues.due("count(7) behind " + call, one.count(7), states + 1);
        Dues.due("undo() of " + call, one.undo(), states);
        compare(call + " and undo()", setup.andThen(made::applyAsInt).andThen(StatuteClauses::undo), setup);
    }

    /** Whether two ways to make a book lead to the same one, with its history, its snapshot and its text. */
    static void compare(String what, Consumer<StatuteClauses> some, Consumer<StatuteClauses> other) {
        for (int undone = 0; undone <= 4; undone++) {
            int times = undone;
            compareLooks(what + ", " + undone + " times undo()", some, other, x -> undo(x, times));
        }
        compareLooks(what + ", restore()", some, other, StatuteClauses::restore);
        compareLooks(what + ", writeAll()", some, other, StatuteClauses::writeAll);
    }

    private static void undo(StatuteClauses x, int times) {
        for (int i = 0; i < times; i++) {
            x.undo();
        }
    }

    private static void compareLooks(String what, Consumer<StatuteClauses> some, Consumer<StatuteClauses> other,
            Consumer<StatuteClauses> between) {
        for (int look = 0; look < 3; look++) {
            if (!seen(some.andThen(between), look).equals(seen(other.andThen(between), look))) {
                Dues.fault(what + ": something else is seen then (look " + look + ")");
            }
        }
    }

    private static List<Integer> seen(Consumer<StatuteClauses> setup, int look) {
        StatuteClauses x = new StatuteClauses();
        setup.accept(x);
        List<Integer> told = new ArrayList<>();
        switch (look) {
            case 0: lookAtAccounts(x, told); break;
            case 1: lookAtRulings(x, told); break;
            default: lookAtReasons(x, told);
        }
        return told;
    }

    private static void lookAtAccounts(StatuteClauses x, List<Integer> told) {
        for (int what = 0; what <= 8; what++) {
            told.add(x.count(what));
        }
        for (int chapter = 0; chapter < 6; chapter++) {
            for (int what = 0; what <= 5; what++) {
                told.add(x.chapter(chapter, what));
            }
        }
        for (int clause = 0; clause < x.count(1); clause++) {
            for (int what = 0; what <= 6; what++) {
                told.add(x.clause(clause, what));
            }
        }
        told.add(x.idle());
        told.add(x.weightiest());
    }

    private static void lookAtRulings(StatuteClauses x, List<Integer> told) {
        for (int day : DAYS) {
            for (int number = 0; number < 100; number++) {
                told.add(x.ruling(number, day, 1));
            }
        }
    }

    /** It shows the exceptions, also those of clauses that are silenced. */
    private static void lookAtReasons(StatuteClauses x, List<Integer> told) {
        int clauses = x.count(1);
        int step = 1 + clauses * 100 / LOOK;
        for (int clause = 0; clause < clauses; clause++) {
            int date = x.clause(clause, 1);
            for (int number = clause % step; number < 100; number += step) {
                told.add(x.reason(clause, number, date));
            }
        }
    }
}
