import java.util.ArrayList;
import java.util.Comparator;
import java.util.List;
import java.util.regex.Matcher;
import java.util.regex.Pattern;

/**
 * Long runs of made-up calls, each held against a slow model that is written straight from the document:
 * it goes through every day and every case, and reads texts by a regular expression.
 */
public final class ModelTest {
    private static final int UNKNOWN = -1;
    private static final int BAD_VALUE = -2;
    private static final int FULL = -3;
    private static final int NOT_POSSIBLE = -4;
    private static final int NONE = -5;

    private static final int RUNS = 400;
    private static final int CALLS = 512;

    /** A made-up sequence that is the same each time. */
    private static final class Dice {
        private long seed;

        Dice(long start) {
            seed = start * 0x9E3779B97F4A7C15L + 1;
        }

        int below(int bound) {
            seed = seed * 6364136223846793005L + 1442695040888963407L;
            return (int) ((seed >>> 33) % bound);
        }
    }

    private record Span(int from, int to) {
        boolean has(int number) {
            return from <= number && number <= to;
        }
    }

    private record Clause(int number, int chapter, int date, int end, Span span, int verdict, List<Span> exceptions) {
        boolean inForce(int day) {
            return date <= day && day < end;
        }
    }

    private record State(int today, List<Span> reach, List<Integer> ranks, List<Clause> clauses) {
        State withToday(int day) {
            return new State(day, reach, ranks, clauses);
        }

        State withReach(int chapter, Span span) {
            return new State(today, replaced(reach, chapter, span), ranks, clauses);
        }

        State withRanks(List<Integer> others) {
            return new State(today, reach, others, clauses);
        }

        State withClauses(List<Clause> others) {
            return new State(today, reach, ranks, others);
        }

        State withClause(Clause clause) {
            return withClauses(replaced(clauses, clause.number, clause));
        }

        boolean meets(Clause c, int number) {
            return c.span.has(number) && c.exceptions.stream().noneMatch(e -> e.has(number))
                && reach.get(c.chapter).has(number);
        }

        /** The clause that silences the others of its chapter, or null. */
        Clause top(int chapter, int number, int day) {
            return clauses.stream()
                .filter(c -> c.chapter == chapter && c.inForce(day) && meets(c, number))
                .max(Comparator.comparingInt(Clause::date).thenComparingInt(Clause::number))
                .orElse(null);
        }

        Clause speaker(int chapter, int number, int day) {
            Clause top = top(chapter, number, day);
            return top == null || top.verdict == 0 ? null : top;
        }

        /** The number of the clause of the ruling, or NONE. */
        int ruler(int number, int day) {
            for (int rank = 5; rank >= 0; rank--) {
                Clause speaker = speaker(ranks.indexOf(rank), number, day);
                if (speaker != null) {
                    return speaker.number;
                }
            }
            return NONE;
        }

        int[] rulers(int day) {
            int[] rulers = new int[100];
            for (int number = 0; number < 100; number++) {
                rulers[number] = ruler(number, day);
            }
            return rulers;
        }
    }

    private static <T> List<T> replaced(List<T> list, int index, T other) {
        List<T> copy = new ArrayList<>(list);
        copy.set(index, other);
        return List.copyOf(copy);
    }

    private static int differences(int[] some, int[] others) {
        int found = 0;
        for (int i = 0; i < some.length; i++) {
            if (some[i] != others[i]) {
                found++;
            }
        }
        return found;
    }

    private static final class Model {
        private static final String CASE = "(?:0|[1-9][0-9]?)";
        private static final String SPAN = CASE + "-" + CASE;
        private static final String CLAUSE = "[0-5]@(?:0|[1-9][0-9]{0,2}):" + SPAN + "=[0-9](?:!" + SPAN
            + "(?:," + SPAN + "){0,2})?";
        private static final Pattern TEXT = Pattern.compile(CLAUSE + "(?:;" + CLAUSE + ")*");

        State now = new State(0, List.of(new Span(0, 99), new Span(0, 99), new Span(0, 99), new Span(0, 99),
            new Span(0, 99), new Span(0, 99)), List.of(0, 1, 2, 3, 4, 5), List.of());
        State kept = null;
        final List<State> history = new ArrayList<>();
        final StringBuilder text = new StringBuilder();

        private static boolean in(int value, int least, int most) {
            return least <= value && value <= most;
        }

        private boolean isClause(int clause) {
            return in(clause, 0, now.clauses.size() - 1);
        }

        private static boolean isSpan(int from, int to) {
            return in(from, 0, 99) && in(to, from, 99);
        }

        private int act(State then, int answer) {
            history.add(now);
            if (history.size() > 4) {
                history.remove(0);
            }
            now = then;
            return answer;
        }

        int setReach(int chapter, int from, int to) {
            if (!in(chapter, 0, 5)) {
                return UNKNOWN;
            }
            if (!isSpan(from, to)) {
                return BAD_VALUE;
            }
            Span old = now.reach.get(chapter);
            Span span = new Span(from, to);
            return old.equals(span) ? NONE : act(now.withReach(chapter, span), 100 * old.from + old.to);
        }

        int exchange(int chapter, int other) {
            if (!in(chapter, 0, 5) || !in(other, 0, 5)) {
                return UNKNOWN;
            }
            if (chapter == other) {
                return NONE;
            }
            int first = now.ranks.get(chapter);
            int second = now.ranks.get(other);
            return act(now.withRanks(replaced(replaced(now.ranks, chapter, second), other, first)), second);
        }

        int write(int chapter, int date, int from, int to, int verdict) {
            if (!in(chapter, 0, 5)) {
                return UNKNOWN;
            }
            if (!in(date, 0, 999) || !isSpan(from, to) || !in(verdict, 0, 9)) {
                return BAD_VALUE;
            }
            int number = now.clauses.size();
            if (number == 30) {
                return FULL;
            }
            List<Clause> then = new ArrayList<>(now.clauses);
            then.add(new Clause(number, chapter, date, 1000, new Span(from, to), verdict, List.of()));
            return act(now.withClauses(List.copyOf(then)), number);
        }

        int except(int clause, int from, int to) {
            if (!isClause(clause)) {
                return UNKNOWN;
            }
            if (!isSpan(from, to)) {
                return BAD_VALUE;
            }
            Clause c = now.clauses.get(clause);
            if (c.exceptions.size() == 3) {
                return FULL;
            }
            List<Span> exceptions = new ArrayList<>(c.exceptions);
            exceptions.add(new Span(from, to));
            return act(now.withClause(new Clause(c.number, c.chapter, c.date, c.end, c.span, c.verdict,
                List.copyOf(exceptions))), exceptions.size());
        }

        int end(int clause, int day) {
            if (!isClause(clause)) {
                return UNKNOWN;
            }
            if (!in(day, 1, 1000)) {
                return BAD_VALUE;
            }
            Clause c = now.clauses.get(clause);
            if (day <= c.date) {
                return NOT_POSSIBLE;
            }
            return c.end == day ? NONE
                : act(now.withClause(new Clause(c.number, c.chapter, c.date, day, c.span, c.verdict, c.exceptions)), c.end);
        }

        int setDay(int day) {
            if (!in(day, 0, 999)) {
                return BAD_VALUE;
            }
            return day == now.today ? NONE
                : act(now.withToday(day), differences(now.rulers(now.today), now.rulers(day)));
        }

        int type(char character) {
            if (text.length() == 80) {
                return FULL;
            }
            text.append(character);
            return text.length();
        }

        int clearText() {
            int length = text.length();
            text.setLength(0);
            return length;
        }

        private static int fault(String text) {
            for (int length = 1; length <= text.length(); length++) {
                Matcher matcher = TEXT.matcher(text.substring(0, length));
                if (!matcher.matches() && !matcher.hitEnd()) {
                    return length - 1;
                }
            }
            return TEXT.matcher(text).matches() ? -1 : text.length();
        }

        int writeAll() {
            int fault = fault(text.toString());
            if (fault >= 0) {
                return -100 - fault;
            }
            List<Clause> then = new ArrayList<>(now.clauses);
            boolean reversed = false;
            String[] parts = text.toString().split(";");
            for (String part : parts) {
                String[] numbers = part.split("[^0-9]");
                List<Span> spans = new ArrayList<>();
                for (int i = 5; i < numbers.length; i += 2) {
                    spans.add(new Span(Integer.parseInt(numbers[i]), Integer.parseInt(numbers[i + 1])));
                }
                Span span = new Span(Integer.parseInt(numbers[2]), Integer.parseInt(numbers[3]));
                then.add(new Clause(then.size(), Integer.parseInt(numbers[0]), Integer.parseInt(numbers[1]), 1000,
                    span, Integer.parseInt(numbers[4]), List.copyOf(spans)));
                reversed |= span.to < span.from || spans.stream().anyMatch(s -> s.to < s.from);
            }
            if (reversed) {
                return BAD_VALUE;
            }
            return then.size() > 30 ? FULL : act(now.withClauses(List.copyOf(then)), parts.length);
        }

        int undo() {
            if (history.isEmpty()) {
                return NONE;
            }
            now = history.remove(history.size() - 1);
            return history.size();
        }

        int keep() {
            kept = now;
            return now.clauses.size();
        }

        int restore() {
            return kept == null ? NONE : act(kept, kept.clauses.size());
        }

        int chapter(int chapter, int what) {
            if (!in(chapter, 0, 5)) {
                return UNKNOWN;
            }
            switch (what) {
                case 0: return now.reach.get(chapter).from;
                case 1: return now.reach.get(chapter).to;
                case 2: return now.ranks.get(chapter);
                case 3: return (int) now.clauses.stream().filter(c -> c.chapter == chapter).count();
                case 4: return (int) now.clauses.stream()
                    .filter(c -> c.chapter == chapter && c.inForce(now.today)).count();
                case 5: return countRuled(r -> r != NONE && now.clauses.get(r).chapter == chapter);
                default: return BAD_VALUE;
            }
        }

        private int countRuled(java.util.function.IntPredicate wanted) {
            return (int) java.util.Arrays.stream(now.rulers(now.today)).filter(wanted).count();
        }

        int clause(int clause, int what) {
            if (!isClause(clause)) {
                return UNKNOWN;
            }
            Clause c = now.clauses.get(clause);
            switch (what) {
                case 0: return c.chapter;
                case 1: return c.date;
                case 2: return c.end;
                case 3: return c.span.from;
                case 4: return c.span.to;
                case 5: return c.verdict;
                case 6: return c.exceptions.size();
                case 7: return c.inForce(now.today) ? 1 : 0;
                case 8:
                    int spoken = 0;
                    for (int number = 0; number < 100; number++) {
                        spoken += now.speaker(c.chapter, number, now.today) == c ? 1 : 0;
                    }
                    return spoken;
                case 9: return countRuled(r -> r == clause);
                default: return BAD_VALUE;
            }
        }

        int ruling(int number, int day, int what) {
            if (!in(number, 0, 99) || !in(day, 0, 999)) {
                return UNKNOWN;
            }
            if (!in(what, 0, 2)) {
                return BAD_VALUE;
            }
            int ruler = now.ruler(number, day);
            if (ruler == NONE || what == 1) {
                return ruler;
            }
            Clause c = now.clauses.get(ruler);
            return what == 0 ? c.verdict : c.chapter;
        }

        int painted(int number, int day) {
            return in(number, 0, 99) && in(day, 0, 999) ? now.ruler(number, day) : UNKNOWN;
        }

        int silencedBy(int clause, int number, int day) {
            if (!isClause(clause) || !in(number, 0, 99) || !in(day, 0, 999)) {
                return UNKNOWN;
            }
            Clause c = now.clauses.get(clause);
            if (!c.inForce(day) || !now.meets(c, number)) {
                return NONE;
            }
            Clause top = now.top(c.chapter, number, day);
            return top == c ? NONE : top.number;
        }

        int reason(int clause, int number, int day) {
            if (!isClause(clause) || !in(number, 0, 99) || !in(day, 0, 999)) {
                return UNKNOWN;
            }
            Clause c = now.clauses.get(clause);
            boolean[] holds = {
                now.ruler(number, day) == clause, c.date > day, c.end <= day, !now.reach.get(c.chapter).has(number),
                !c.span.has(number), c.exceptions.stream().anyMatch(e -> e.has(number)),
                now.top(c.chapter, number, day) != c, c.verdict == 0, true};
            int first = 0;
            while (!holds[first]) {
                first++;
            }
            return first;
        }

        int changesOn(int number, int day) {
            if (!in(number, 0, 99) || !in(day, 0, 999)) {
                return UNKNOWN;
            }
            for (int next = day + 1; next <= 999; next++) {
                if (now.ruler(number, next) != now.ruler(number, next - 1)) {
                    return next;
                }
            }
            return NONE;
        }

        int unlike(int chapter, int other) {
            if (!in(chapter, 0, 5) || !in(other, 0, 5)) {
                return UNKNOWN;
            }
            if (chapter == other) {
                return BAD_VALUE;
            }
            int found = 0;
            for (int number = 0; number < 100; number++) {
                Clause one = now.speaker(chapter, number, now.today);
                Clause two = now.speaker(other, number, now.today);
                found += one != null && two != null && one.verdict != two.verdict ? 1 : 0;
            }
            return found;
        }

        int idle() {
            int set = (1 << now.clauses.size()) - 1;
            for (int day = 0; day <= 999; day++) {
                int today = day;
                if (day > 0 && now.clauses.stream().noneMatch(c -> c.date == today || c.end == today)) {
                    continue;
                }
                for (int ruler : now.rulers(day)) {
                    set &= ruler == NONE ? -1 : ~(1 << ruler);
                }
            }
            return set;
        }

        int ifGone(int clause) {
            if (!isClause(clause)) {
                return UNKNOWN;
            }
            List<Clause> others = new ArrayList<>(now.clauses);
            others.remove(clause);
            return differences(now.rulers(now.today), now.withClauses(others).rulers(now.today));
        }

        int weightiest() {
            int[] ruled = new int[30];
            for (int ruler : now.rulers(now.today)) {
                if (ruler != NONE) {
                    ruled[ruler]++;
                }
            }
            int best = 0;
            for (int k = 29; k >= 0; k--) {
                best = ruled[k] >= ruled[best] ? k : best;
            }
            return ruled[best] == 0 ? NONE : best;
        }

        int count(int what) {
            switch (what) {
                case 0: return now.today;
                case 1: return now.clauses.size();
                case 2: return (int) now.clauses.stream().filter(c -> c.inForce(now.today)).count();
                case 3: return countRuled(r -> r != NONE);
                case 4:
                    int spoken = 0;
                    for (int chapter = 0; chapter < 6; chapter++) {
                        for (int number = 0; number < 100; number++) {
                            spoken += now.speaker(chapter, number, now.today) == null ? 0 : 1;
                        }
                    }
                    return spoken;
                case 5: return now.clauses.stream().mapToInt(c -> c.exceptions.size()).sum();
                case 6: return (int) now.clauses.stream().filter(c -> c.verdict == 0).count();
                case 7: return history.size();
                case 8: return text.length();
                default: return BAD_VALUE;
            }
        }
    }

    /** One run: a book, its model, and dice that make up the calls. */
    private static final class Run {
        final int run;
        final Dice dice;
        final StatuteClauses x = new StatuteClauses();
        final Model m = new Model();
        /** Some runs keep to few chapters, days and cases, so that clauses meet one another often. */
        final int chapters;
        final int days;
        final int cases;
        int calls = 0;
        boolean stands = true;

        Run(int number) {
            run = number;
            dice = new Dice(number);
            chapters = run % 3 == 0 ? 6 : 2;
            days = run % 2 == 0 ? 1000 : 12;
            cases = run % 5 == 0 ? 100 : 30;
        }

        /** Mostly a value below a bound, now and then one at its edge or far off. */
        int value(int bound) {
            switch (dice.below(40)) {
                case 0: return -1;
                case 1: return bound;
                case 2: return bound - 1;
                case 3: return dice.below(2) == 0 ? Integer.MAX_VALUE : Integer.MIN_VALUE;
                default: return dice.below(Math.max(1, bound));
            }
        }

        int aChapter() {
            return dice.below(30) == 0 ? value(6) : dice.below(chapters);
        }

        int aDay() {
            return dice.below(30) == 0 ? value(1000) : dice.below(days);
        }

        int aCase() {
            return dice.below(30) == 0 ? value(100) : dice.below(cases);
        }

        int aClause() {
            return value(m.now.clauses.size());
        }

        void due(String call, int got, int want) {
            calls++;
            if (got != want && stands) {
                stands = false;
                System.out.println("run " + run + ", call " + calls + ": " + call + " answered " + got + ", due is " + want);
            }
        }

        int[] aSpan() {
            int a = aCase();
            int b = aCase();
            return dice.below(20) == 0 ? new int[] {a, b} : new int[] {Math.min(a, b), Math.max(a, b)};
        }

        void oneAct() {
            int[] s = aSpan();
            int c = aChapter();
            int d = aDay();
            int k = aClause();
            int o = aChapter();
            int v = dice.below(3) == 0 ? 0 : value(10);
            switch (dice.below(12)) {
                case 0: due("setReach " + c + " " + s[0] + " " + s[1], x.setReach(c, s[0], s[1]), m.setReach(c, s[0], s[1])); break;
                case 1: due("exchange " + c + " " + o, x.exchange(c, o), m.exchange(c, o)); break;
                case 2: due("except " + k + " " + s[0] + " " + s[1], x.except(k, s[0], s[1]), m.except(k, s[0], s[1])); break;
                case 3: due("end " + k + " " + d, x.end(k, d), m.end(k, d)); break;
                case 4: due("setDay " + d, x.setDay(d), m.setDay(d)); break;
                case 5:
                    if (dice.below(3) > 0) {
                        due("undo", x.undo(), m.undo());
                    }
                    break;
                case 6:
                    if (dice.below(3) == 0) {
                        due("keep", x.keep(), m.keep());
                    }
                    break;
                case 7:
                    if (dice.below(6) == 0) {
                        due("restore", x.restore(), m.restore());
                    }
                    break;
                default: due("write " + c + " " + d + " " + s[0] + " " + s[1] + " " + v,
                    x.write(c, d, s[0], s[1], v), m.write(c, d, s[0], s[1], v));
            }
        }

        void oneQuestion() {
            int n = aCase();
            int d = aDay();
            int k = aClause();
            int c = aChapter();
            int o = aChapter();
            int w;
            switch (dice.below(15)) {
                case 0: w = value(6); due("chapter " + c + " " + w, x.chapter(c, w), m.chapter(c, w)); break;
                case 1: w = value(10); due("clause " + k + " " + w, x.clause(k, w), m.clause(k, w)); break;
                case 2: w = value(3); due("ruling " + n + " " + d + " " + w, x.ruling(n, d, w), m.ruling(n, d, w)); break;
                case 3: due("painted " + n + " " + d, x.painted(n, d), m.painted(n, d)); break;
                case 4:
                case 5: due("silencedBy " + k + " " + n + " " + d, x.silencedBy(k, n, d), m.silencedBy(k, n, d)); break;
                case 6:
                case 7: due("reason " + k + " " + n + " " + d, x.reason(k, n, d), m.reason(k, n, d)); break;
                case 8:
                    if (dice.below(4) == 0) {
                        due("changesOn " + n + " " + d, x.changesOn(n, d), m.changesOn(n, d));
                    }
                    break;
                case 9: due("unlike " + c + " " + o, x.unlike(c, o), m.unlike(c, o)); break;
                case 10:
                    if (dice.below(8) == 0) {
                        due("idle", x.idle(), m.idle());
                    }
                    break;
                case 11: due("ifGone " + k, x.ifGone(k), m.ifGone(k)); break;
                case 12: due("weightiest", x.weightiest(), m.weightiest()); break;
                default: w = value(9); due("count " + w, x.count(w), m.count(w));
            }
        }

        String aNumber(int bound) {
            int number = dice.below(40) == 0 ? dice.below(2000) : dice.below(bound);
            return (dice.below(60) == 0 ? "0" : "") + number;
        }

        String spanText() {
            int a = dice.below(cases);
            int b = dice.below(cases);
            boolean asItIs = dice.below(30) == 0;
            return (asItIs ? a : Math.min(a, b)) + "-" + (asItIs ? aNumber(100) : "" + Math.max(a, b));
        }

        String clauseText() {
            StringBuilder made = new StringBuilder();
            made.append(aNumber(chapters)).append('@').append(aNumber(days)).append(':').append(spanText())
                .append('=').append(aNumber(10));
            int exceptions = Math.max(0, dice.below(7) - 3);
            for (int i = 0; i < exceptions; i++) {
                made.append(i == 0 ? '!' : ',').append(spanText());
            }
            if (dice.below(40) == 0) {
                made.append(",1-2,3-4,5-6");
            }
            return made.toString();
        }

        void oneText() {
            due("clearText", x.clearText(), m.clearText());
            StringBuilder made = new StringBuilder(clauseText());
            for (int i = dice.below(5); i > 0; i--) {
                made.append(';').append(clauseText());
            }
            if (dice.below(3) == 0) {
                int place = dice.below(made.length());
                switch (dice.below(4)) {
                    case 0: made.setLength(place); break;
                    case 1: made.deleteCharAt(place); break;
                    case 2: made.setCharAt(place, "0123456789@:-=!,; x".charAt(dice.below(19))); break;
                    default: made.insert(place, "0123456789@:-=!,;".charAt(dice.below(17)));
                }
            }
            for (int i = 0; i < made.length() && i < 82; i++) {
                due("type " + made.charAt(i), x.type(made.charAt(i)), m.type(made.charAt(i)));
            }
            due("writeAll of " + m.text, x.writeAll(), m.writeAll());
        }

        boolean play() {
            boolean texts = run % 4 != 0;
            while (calls < CALLS - 100 && stands) {
                int what = dice.below(100);
                if (what < 3 && texts) {
                    oneText();
                } else if (what < (m.now.clauses.size() < 8 ? 60 : 25)) {
                    oneAct();
                } else {
                    oneQuestion();
                }
            }
            for (int i = 0; i < 90 && stands; i++) {
                oneQuestion();
            }
            return stands;
        }
    }

    public static void main(String[] args) {
        int wrong = 0;
        int full = 0;
        for (int run = 0; run < RUNS; run++) {
            Run one = new Run(run);
            if (!one.play()) {
                wrong++;
            }
            if (one.m.now.clauses.size() == 30) {
                full++;
            }
        }
        System.out.println(RUNS + " runs, " + full + " of them to a full book, " + wrong + " wrong");
        if (wrong != 0 || full == 0) {
            System.exit(1);
        }
    }
}
