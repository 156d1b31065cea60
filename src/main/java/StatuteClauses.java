import java.util.Arrays;

/** A statute book whose later clauses silence earlier ones within their own chapter. */
public final class StatuteClauses {
    /** There is no such chapter, clause, case or day. */
    public static final int UNKNOWN = -1;
    /** Another argument is out of range. */
    public static final int BAD_VALUE = -2;
    /** There is no more room. */
    public static final int FULL = -3;
    /** This is not possible. */
    public static final int NOT_POSSIBLE = -4;
    /** There is no such thing; not an error. */
    public static final int NONE = -5;

    private static final int CASES = 100;
    private static final int DAYS = 1000;
    private static final int CHAPTERS = 6;
    private static final int VERDICTS = 10;
    private static final int CLAUSE_ROOM = 30;
    private static final int EXCEPTION_ROOM = 3;
    private static final int TEXT_ROOM = 80;
    private static final int HISTORY_ROOM = 4;
    /** A clause ends at a day; this one lies behind all days. */
    private static final int NEVER = 1000;
    /** Stands where a clause's number could stand. */
    private static final int NO_CLAUSE = -1;
    /** What writeAll() answers of a fault at the text's first character. */
    private static final int FIRST_FAULT = -100;

    private final Judge judge = new Judge();
    /** The present state: the book that the Judge judges. */
    private final Book now = judge.book;
    private final Book snapshot = new Book();
    private boolean hasSnapshot = false;
    /** The oldest state is the first; those from pastSize on are free. */
    private final Book[] past = new Book[HISTORY_ROOM];
    private int pastSize = 0;
    private final Text text = new Text();
    /** What was read from the text, ahead of being written. */
    private final Clauses draft = new Clauses();
    private final Painter painter = new Painter();

    public StatuteClauses() {
        for (int i = 0; i < HISTORY_ROOM; i++) {
            past[i] = new Book();
        }
    }

    // ---- chapters, clauses

    public int setReach(int chapter, int from, int to) {
        if (!isChapter(chapter)) {
            return UNKNOWN;
        }
        if (!isSpan(from, to)) {
            return BAD_VALUE;
        }
        int oldFirst = now.reachFirst[chapter];
        int oldLast = now.reachLast[chapter];
        if (oldFirst == from && oldLast == to) {
            return NONE;
        }
        record();
        now.reachFirst[chapter] = from;
        now.reachLast[chapter] = to;
        return 100 * oldFirst + oldLast;
    }

    public int exchange(int chapter, int other) {
        if (!isChapter(chapter) || !isChapter(other)) {
            return UNKNOWN;
        }
        if (chapter == other) {
            return NONE;
        }
        record();
        int rank = now.rankOf[chapter];
        now.rankOf[chapter] = now.rankOf[other];
        now.rankOf[other] = rank;
        return now.rankOf[chapter];
    }

    public int write(int chapter, int date, int from, int to, int verdict) {
        if (!isChapter(chapter)) {
            return UNKNOWN;
        }
        if (!isDay(date) || !isSpan(from, to) || !isBelow(verdict, VERDICTS)) {
            return BAD_VALUE;
        }
        if (now.clauses.size >= CLAUSE_ROOM) {
            return FULL;
        }
        record();
        return now.clauses.add(chapter, date, from, to, verdict);
    }

    public int except(int clause, int from, int to) {
        if (!now.clauses.has(clause)) {
            return UNKNOWN;
        }
        if (!isSpan(from, to)) {
            return BAD_VALUE;
        }
        if (now.clauses.exceptions[clause] >= EXCEPTION_ROOM) {
            return FULL;
        }
        record();
        now.clauses.addException(clause, from, to);
        return now.clauses.exceptions[clause];
    }

    public int end(int clause, int day) {
        if (!now.clauses.has(clause)) {
            return UNKNOWN;
        }
        if (day < 1 || day > NEVER) {
            return BAD_VALUE;
        }
        if (day <= now.clauses.date[clause]) {
            return NOT_POSSIBLE;
        }
        int oldEnd = now.clauses.endDay[clause];
        if (oldEnd == day) {
            return NONE;
        }
        record();
        now.clauses.endDay[clause] = day;
        return oldEnd;
    }

    public int setDay(int day) {
        if (!isDay(day)) {
            return BAD_VALUE;
        }
        int oldDay = now.today;
        if (oldDay == day) {
            return NONE;
        }
        record();
        now.today = day;
        return judge.casesChangedBetween(oldDay, day);
    }

    // ---- texts

    public int type(char character) {
        if (text.length >= TEXT_ROOM) {
            return FULL;
        }
        text.add(character);
        return text.length;
    }

    public int clearText() {
        int oldLength = text.length;
        text.length = 0;
        return oldLength;
    }

    public int writeAll() {
        if (!text.readClauses(draft)) {
            return FIRST_FAULT - text.at;
        }
        if (draft.hasReversedSpan()) {
            return BAD_VALUE;
        }
        if (now.clauses.size + draft.size > CLAUSE_ROOM) {
            return FULL;
        }
        record();
        now.clauses.addAll(draft);
        return draft.size;
    }

    // ---- history

    public int undo() {
        if (pastSize < 1) {
            return NONE;
        }
        pastSize--;
        now.copyFrom(past[pastSize]);
        return pastSize;
    }

    public int keep() {
        snapshot.copyFrom(now);
        hasSnapshot = true;
        return now.clauses.size;
    }

    public int restore() {
        if (!hasSnapshot) {
            return NONE;
        }
        record();
        now.copyFrom(snapshot);
        return now.clauses.size;
    }

    // ---- what is told

    public int chapter(int chapter, int what) {
        if (!isChapter(chapter)) {
            return UNKNOWN;
        }
        switch (what) {
            case 0:
                return now.reachFirst[chapter];
            case 1:
                return now.reachLast[chapter];
            case 2:
                return now.rankOf[chapter];
            case 3:
                return now.clauses.countOfChapter(chapter);
            case 4:
                return now.clauses.countInForceOfChapter(chapter, now.today);
            case 5:
                return judge.casesRuledByChapter(chapter);
            default:
                return BAD_VALUE;
        }
    }

    public int clause(int clause, int what) {
        Clauses clauses = now.clauses;
        if (!clauses.has(clause)) {
            return UNKNOWN;
        }
        switch (what) {
            case 0:
                return clauses.chapterOf[clause];
            case 1:
                return clauses.date[clause];
            case 2:
                return clauses.endDay[clause];
            case 3:
                return clauses.first[clause];
            case 4:
                return clauses.last[clause];
            case 5:
                return clauses.verdict[clause];
            case 6:
                return clauses.exceptions[clause];
            case 7:
                return clauses.isInForce(clause, now.today) ? 1 : 0;
            case 8:
                return judge.casesSpokenOf(clause);
            case 9:
                return judge.casesRuledByClause(clause);
            default:
                return BAD_VALUE;
        }
    }

    public int ruling(int number, int day, int what) {
        if (!isCase(number) || !isDay(day)) {
            return UNKNOWN;
        }
        if (!isBelow(what, 3)) {
            return BAD_VALUE;
        }
        int ruler = judge.ruler(number, day);
        if (ruler == NO_CLAUSE) {
            return NONE;
        }
        if (what == 0) {
            return now.clauses.verdict[ruler];
        }
        return what == 1 ? ruler : now.clauses.chapterOf[ruler];
    }

    public int painted(int number, int day) {
        if (!isCase(number) || !isDay(day)) {
            return UNKNOWN;
        }
        painter.paint(now, day);
        int clause = painter.canvas[number];
        return clause == NO_CLAUSE ? NONE : clause;
    }

    public int silencedBy(int clause, int number, int day) {
        if (!now.clauses.has(clause) || !isCase(number) || !isDay(day)) {
            return UNKNOWN;
        }
        int silencer = judge.silencer(clause, number, day);
        return silencer == NO_CLAUSE ? NONE : silencer;
    }

    public int reason(int clause, int number, int day) {
        if (!now.clauses.has(clause) || !isCase(number) || !isDay(day)) {
            return UNKNOWN;
        }
        return judge.whyNotRuling(clause, number, day);
    }

    public int changesOn(int number, int day) {
        if (!isCase(number) || !isDay(day)) {
            return UNKNOWN;
        }
        return judge.nextChange(number, day);
    }

    public int unlike(int chapter, int other) {
        if (!isChapter(chapter) || !isChapter(other)) {
            return UNKNOWN;
        }
        if (chapter == other) {
            return BAD_VALUE;
        }
        return judge.casesOfUnlikeVerdicts(chapter, other);
    }

    /** The answer is a set of bits: the bit k stands for the clause k. */
    public int idle() {
        int all = (1 << now.clauses.size) - 1;
        return all & ~judge.busyClauses();
    }

    public int ifGone(int clause) {
        if (!now.clauses.has(clause)) {
            return UNKNOWN;
        }
        return judge.casesChangedWithout(clause);
    }

    public int weightiest() {
        int best = judge.rulerOfMost();
        return best == NO_CLAUSE ? NONE : best;
    }

    public int count(int what) {
        switch (what) {
            case 0:
                return now.today;
            case 1:
                return now.clauses.size;
            case 2:
                return now.clauses.countInForce(now.today);
            case 3:
                return judge.casesRuled();
            case 4:
                return judge.timesSpoken();
            case 5:
                return now.clauses.countExceptions();
            case 6:
                return now.clauses.countSilent();
            case 7:
                return pastSize;
            case 8:
                return text.length;
            default:
                return BAD_VALUE;
        }
    }

    private static boolean isBelow(int value, int bound) {
        return value >= 0 && value < bound;
    }

    private static boolean isChapter(int chapter) {
        return isBelow(chapter, CHAPTERS);
    }

    private static boolean isCase(int number) {
        return isBelow(number, CASES);
    }

    private static boolean isDay(int day) {
        return isBelow(day, DAYS);
    }

    private static boolean isSpan(int from, int to) {
        return isCase(from) && isCase(to) && from <= to;
    }

    /** Puts the state behind the history; the row of the oldest one is used again. */
    private void record() {
        if (pastSize < HISTORY_ROOM) {
            pastSize++;
        } else {
            Book oldest = past[0];
            for (int i = 1; i < HISTORY_ROOM; i++) {
                past[i - 1] = past[i];
            }
            past[HISTORY_ROOM - 1] = oldest;
        }
        past[pastSize - 1].copyFrom(now);
    }

    /** Clauses in rows, by their numbers. */
    private static final class Clauses {
        int size = 0;
        final int[] chapterOf = new int[CLAUSE_ROOM];
        final int[] date = new int[CLAUSE_ROOM];
        final int[] endDay = new int[CLAUSE_ROOM];
        final int[] first = new int[CLAUSE_ROOM];
        final int[] last = new int[CLAUSE_ROOM];
        final int[] verdict = new int[CLAUSE_ROOM];
        final int[] exceptions = new int[CLAUSE_ROOM];
        /** The exceptions of clause k stand from k * EXCEPTION_ROOM on. */
        final int[] exceptFirst = new int[CLAUSE_ROOM * EXCEPTION_ROOM];
        final int[] exceptLast = new int[CLAUSE_ROOM * EXCEPTION_ROOM];

        boolean has(int clause) {
            return isBelow(clause, size);
        }

        int add(int chapter, int fromDay, int from, int to, int says) {
            if (size >= CLAUSE_ROOM) {
                return NO_CLAUSE;
            }
            int clause = size;
            size++;
            chapterOf[clause] = chapter;
            date[clause] = fromDay;
            endDay[clause] = NEVER;
            first[clause] = from;
            last[clause] = to;
            verdict[clause] = says;
            exceptions[clause] = 0;
            return clause;
        }

        void addException(int clause, int from, int to) {
            if (!has(clause) || exceptions[clause] >= EXCEPTION_ROOM) {
                return;
            }
            int place = clause * EXCEPTION_ROOM + exceptions[clause];
            exceptFirst[place] = from;
            exceptLast[place] = to;
            exceptions[clause]++;
        }

        void addAll(Clauses more) {
            for (int i = 0; i < more.size; i++) {
                int clause = add(more.chapterOf[i], more.date[i], more.first[i], more.last[i], more.verdict[i]);
                for (int k = 0; k < more.exceptions[i]; k++) {
                    int place = i * EXCEPTION_ROOM + k;
                    addException(clause, more.exceptFirst[place], more.exceptLast[place]);
                }
            }
        }

        void copyFrom(Clauses other) {
            size = other.size;
            System.arraycopy(other.chapterOf, 0, chapterOf, 0, size);
            System.arraycopy(other.date, 0, date, 0, size);
            System.arraycopy(other.endDay, 0, endDay, 0, size);
            System.arraycopy(other.first, 0, first, 0, size);
            System.arraycopy(other.last, 0, last, 0, size);
            System.arraycopy(other.verdict, 0, verdict, 0, size);
            System.arraycopy(other.exceptions, 0, exceptions, 0, size);
            System.arraycopy(other.exceptFirst, 0, exceptFirst, 0, size * EXCEPTION_ROOM);
            System.arraycopy(other.exceptLast, 0, exceptLast, 0, size * EXCEPTION_ROOM);
        }

        boolean isInForce(int clause, int day) {
            return date[clause] <= day && endDay[clause] > day;
        }

        boolean isInSpan(int clause, int number) {
            return first[clause] <= number && number <= last[clause];
        }

        boolean isExcepted(int clause, int number) {
            int place = clause * EXCEPTION_ROOM;
            for (int k = 0; k < exceptions[clause]; k++) {
                if (exceptFirst[place + k] <= number && number <= exceptLast[place + k]) {
                    return true;
                }
            }
            return false;
        }

        boolean speaksAtAll(int clause) {
            return verdict[clause] != 0;
        }

        boolean hasReversedSpan() {
            for (int clause = 0; clause < size; clause++) {
                if (last[clause] < first[clause]) {
                    return true;
                }
                int place = clause * EXCEPTION_ROOM;
                for (int k = 0; k < exceptions[clause]; k++) {
                    if (exceptLast[place + k] < exceptFirst[place + k]) {
                        return true;
                    }
                }
            }
            return false;
        }

        /** The first day behind a day on which a clause begins or ends: rulings stay as they are between two. */
        int nextTurn(int day) {
            int turn = DAYS;
            for (int clause = 0; clause < size; clause++) {
                if (date[clause] > day) {
                    turn = Math.min(turn, date[clause]);
                }
                if (endDay[clause] > day) {
                    turn = Math.min(turn, endDay[clause]);
                }
            }
            return turn;
        }

        int countOfChapter(int chapter) {
            int found = 0;
            for (int clause = 0; clause < size; clause++) {
                if (chapterOf[clause] == chapter) {
                    found++;
                }
            }
            return found;
        }

        int countInForceOfChapter(int chapter, int day) {
            int found = 0;
            for (int clause = 0; clause < size; clause++) {
                if (chapterOf[clause] == chapter && isInForce(clause, day)) {
                    found++;
                }
            }
            return found;
        }

        int countInForce(int day) {
            int found = 0;
            for (int clause = 0; clause < size; clause++) {
                if (isInForce(clause, day)) {
                    found++;
                }
            }
            return found;
        }

        int countExceptions() {
            int found = 0;
            for (int clause = 0; clause < size; clause++) {
                found += exceptions[clause];
            }
            return found;
        }

        int countSilent() {
            int found = 0;
            for (int clause = 0; clause < size; clause++) {
                if (!speaksAtAll(clause)) {
                    found++;
                }
            }
            return found;
        }
    }

    /** A state: today, the chapters and the clauses. */
    private static final class Book {
        int today = 0;
        final int[] reachFirst = new int[CHAPTERS];
        final int[] reachLast = new int[CHAPTERS];
        final int[] rankOf = new int[CHAPTERS];
        final Clauses clauses = new Clauses();

        Book() {
            for (int chapter = 0; chapter < CHAPTERS; chapter++) {
                reachLast[chapter] = CASES - 1;
                rankOf[chapter] = chapter;
            }
        }

        void copyFrom(Book other) {
            today = other.today;
            System.arraycopy(other.reachFirst, 0, reachFirst, 0, CHAPTERS);
            System.arraycopy(other.reachLast, 0, reachLast, 0, CHAPTERS);
            System.arraycopy(other.rankOf, 0, rankOf, 0, CHAPTERS);
            clauses.copyFrom(other.clauses);
        }

        boolean reaches(int chapter, int number) {
            return reachFirst[chapter] <= number && number <= reachLast[chapter];
        }

        boolean meets(int clause, int number) {
            return clauses.isInSpan(clause, number)
                && reaches(clauses.chapterOf[clause], number)
                && !clauses.isExcepted(clause, number);
        }
    }

    /** Finds who speaks and who rules, in rows that are used again for every case. */
    private static final class Judge {
        final Book book = new Book();
        final Clauses clauses = book.clauses;
        /** For each chapter the clause that silences its others, as findTops() found it. */
        final int[] tops = new int[CHAPTERS];
        /** For each clause how many cases it rules, as tallyToday() found it. */
        final int[] tally = new int[CLAUSE_ROOM];

        /** One clause is passed over as if it was not there; NO_CLAUSE passes over none. */
        void findTops(int number, int day, int without) {
            Arrays.fill(tops, NO_CLAUSE);
            for (int clause = 0; clause < clauses.size; clause++) {
                if (clause != without && clauses.isInForce(clause, day) && book.meets(clause, number)) {
                    int chapter = clauses.chapterOf[clause];
                    int top = tops[chapter];
                    if (top == NO_CLAUSE || clauses.date[clause] >= clauses.date[top]) {
                        tops[chapter] = clause;
                    }
                }
            }
        }

        boolean topSpeaks(int chapter) {
            int top = tops[chapter];
            return top != NO_CLAUSE && clauses.speaksAtAll(top);
        }

        int rulerOfTops() {
            int ruler = NO_CLAUSE;
            int greatest = -1;
            for (int chapter = 0; chapter < CHAPTERS; chapter++) {
                if (topSpeaks(chapter) && book.rankOf[chapter] > greatest) {
                    ruler = tops[chapter];
                    greatest = book.rankOf[chapter];
                }
            }
            return ruler;
        }

        int ruler(int number, int day) {
            findTops(number, day, NO_CLAUSE);
            return rulerOfTops();
        }

        int rulerWithout(int clause, int number, int day) {
            findTops(number, day, clause);
            return rulerOfTops();
        }

        int silencer(int clause, int number, int day) {
            if (!clauses.isInForce(clause, day) || !book.meets(clause, number)) {
                return NO_CLAUSE;
            }
            findTops(number, day, NO_CLAUSE);
            int top = tops[clauses.chapterOf[clause]];
            return top == clause ? NO_CLAUSE : top;
        }

        int whyNotRuling(int clause, int number, int day) {
            int chapter = clauses.chapterOf[clause];
            if (clauses.date[clause] > day) {
                return 1;
            }
            if (clauses.endDay[clause] <= day) {
                return 2;
            }
            if (!book.reaches(chapter, number)) {
                return 3;
            }
            if (!clauses.isInSpan(clause, number)) {
                return 4;
            }
            if (clauses.isExcepted(clause, number)) {
                return 5;
            }
            findTops(number, day, NO_CLAUSE);
            if (tops[chapter] != clause) {
                return 6;
            }
            if (!clauses.speaksAtAll(clause)) {
                return 7;
            }
            return rulerOfTops() == clause ? 0 : 8;
        }

        int nextChange(int number, int day) {
            int ruler = ruler(number, day);
            int turn = clauses.nextTurn(day);
            for (int i = 0; i < DAYS && turn < DAYS; i++) {
                if (ruler(number, turn) != ruler) {
                    return turn;
                }
                turn = clauses.nextTurn(turn);
            }
            return NONE;
        }

        /** The clauses that rule some case on some day, as a set of bits. */
        int busyClauses() {
            int busy = 0;
            int turn = clauses.nextTurn(-1);
            for (int i = 0; i < DAYS && turn < DAYS; i++) {
                for (int number = 0; number < CASES; number++) {
                    int ruler = ruler(number, turn);
                    if (ruler != NO_CLAUSE) {
                        busy |= 1 << ruler;
                    }
                }
                turn = clauses.nextTurn(turn);
            }
            return busy;
        }

        int casesChangedBetween(int day, int other) {
            int found = 0;
            for (int number = 0; number < CASES; number++) {
                if (ruler(number, day) != ruler(number, other)) {
                    found++;
                }
            }
            return found;
        }

        int casesChangedWithout(int clause) {
            int found = 0;
            for (int number = 0; number < CASES; number++) {
                if (ruler(number, book.today) != rulerWithout(clause, number, book.today)) {
                    found++;
                }
            }
            return found;
        }

        void tallyToday() {
            Arrays.fill(tally, 0);
            for (int number = 0; number < CASES; number++) {
                int ruler = ruler(number, book.today);
                if (ruler != NO_CLAUSE) {
                    tally[ruler]++;
                }
            }
        }

        int casesRuled() {
            tallyToday();
            int found = 0;
            for (int clause = 0; clause < clauses.size; clause++) {
                found += tally[clause];
            }
            return found;
        }

        int casesRuledByClause(int clause) {
            tallyToday();
            return tally[clause];
        }

        int casesRuledByChapter(int chapter) {
            tallyToday();
            int found = 0;
            for (int clause = 0; clause < clauses.size; clause++) {
                if (clauses.chapterOf[clause] == chapter) {
                    found += tally[clause];
                }
            }
            return found;
        }

        int rulerOfMost() {
            tallyToday();
            int best = NO_CLAUSE;
            int most = 0;
            for (int clause = 0; clause < clauses.size; clause++) {
                if (tally[clause] > most) {
                    best = clause;
                    most = tally[clause];
                }
            }
            return best;
        }

        int casesSpokenOf(int clause) {
            int chapter = clauses.chapterOf[clause];
            int found = 0;
            for (int number = 0; number < CASES; number++) {
                findTops(number, book.today, NO_CLAUSE);
                if (tops[chapter] == clause && topSpeaks(chapter)) {
                    found++;
                }
            }
            return found;
        }

        int timesSpoken() {
            int found = 0;
            for (int number = 0; number < CASES; number++) {
                findTops(number, book.today, NO_CLAUSE);
                for (int chapter = 0; chapter < CHAPTERS; chapter++) {
                    if (topSpeaks(chapter)) {
                        found++;
                    }
                }
            }
            return found;
        }

        int casesOfUnlikeVerdicts(int chapter, int other) {
            int found = 0;
            for (int number = 0; number < CASES; number++) {
                findTops(number, book.today, NO_CLAUSE);
                if (topSpeaks(chapter) && topSpeaks(other)
                        && clauses.verdict[tops[chapter]] != clauses.verdict[tops[other]]) {
                    found++;
                }
            }
            return found;
        }
    }

    /** Finds rulings in a second way; it asks the Judge nothing, so that each can be held against the other. */
    private static final class Painter {
        /** The clause that rules each case. */
        final int[] canvas = new int[CASES];
        /** The latest clause of one chapter for each case, also one that says nothing. */
        final int[] coat = new int[CASES];
        /** The clauses by dates, of one date by numbers. */
        final int[] order = new int[CLAUSE_ROOM];

        void paint(Book book, int day) {
            sortByDates(book.clauses);
            Arrays.fill(canvas, NO_CLAUSE);
            for (int rank = 0; rank < CHAPTERS; rank++) {
                for (int chapter = 0; chapter < CHAPTERS; chapter++) {
                    if (book.rankOf[chapter] == rank) {
                        paintCoat(book, chapter, day);
                        layCoat(book.clauses);
                    }
                }
            }
        }

        private void sortByDates(Clauses clauses) {
            for (int clause = 0; clause < clauses.size; clause++) {
                int place = clause;
                while (place > 0 && clauses.date[order[place - 1]] > clauses.date[clause]) {
                    order[place] = order[place - 1];
                    place--;
                }
                order[place] = clause;
            }
        }

        private void paintCoat(Book book, int chapter, int day) {
            Arrays.fill(coat, NO_CLAUSE);
            Clauses clauses = book.clauses;
            for (int i = 0; i < clauses.size; i++) {
                int clause = order[i];
                if (clauses.chapterOf[clause] == chapter && clauses.isInForce(clause, day)) {
                    int from = Math.max(clauses.first[clause], book.reachFirst[chapter]);
                    int to = Math.min(clauses.last[clause], book.reachLast[chapter]);
                    paintClause(clauses, clause, from, to);
                }
            }
        }

        private void paintClause(Clauses clauses, int clause, int from, int to) {
            for (int number = from; number <= to; number++) {
                if (!clauses.isExcepted(clause, number)) {
                    coat[number] = clause;
                }
            }
        }

        /** Where the coat's clause says nothing, what lesser chapters painted stays to be seen. */
        private void layCoat(Clauses clauses) {
            for (int number = 0; number < CASES; number++) {
                int clause = coat[number];
                if (clause != NO_CLAUSE && clauses.speaksAtAll(clause)) {
                    canvas[number] = clause;
                }
            }
        }
    }

    /** The text, and the reading of clauses from it. */
    private static final class Text {
        final char[] signs = new char[TEXT_ROOM];
        int length = 0;
        /** How far was read: behind a reading that failed, the fault. */
        int at = 0;
        /** The number that was read last. */
        private int value = 0;
        /** The span that was read last. */
        private int first = 0;
        private int last = 0;

        void add(char sign) {
            if (length < TEXT_ROOM) {
                signs[length] = sign;
                length++;
            }
        }

        /** Reads the whole text; false if it has a fault. Spans may be reversed. */
        boolean readClauses(Clauses draft) {
            at = 0;
            draft.size = 0;
            for (int i = 0; i <= TEXT_ROOM; i++) {
                if (!readClause(draft)) {
                    return false;
                }
                if (at == length) {
                    return true;
                }
                if (!readSign(';')) {
                    return false;
                }
            }
            return false;
        }

        private boolean readClause(Clauses draft) {
            if (!readNumber(CHAPTERS - 1)) {
                return false;
            }
            int chapter = value;
            if (!readSign('@') || !readNumber(DAYS - 1)) {
                return false;
            }
            int date = value;
            if (!readSign(':') || !readSpan() || !readSign('=') || !readNumber(VERDICTS - 1)) {
                return false;
            }
            int clause = draft.add(chapter, date, first, last, value);
            return !readSign('!') || readExceptions(draft, clause);
        }

        private boolean readExceptions(Clauses draft, int clause) {
            for (int k = 0; k < EXCEPTION_ROOM; k++) {
                if (k > 0 && !readSign(',')) {
                    return true;
                }
                if (!readSpan()) {
                    return false;
                }
                draft.addException(clause, first, last);
            }
            return true;
        }

        private boolean readSpan() {
            if (!readNumber(CASES - 1)) {
                return false;
            }
            first = value;
            if (!readSign('-') || !readNumber(CASES - 1)) {
                return false;
            }
            last = value;
            return true;
        }

        private boolean readSign(char sign) {
            if (at >= length || signs[at] != sign) {
                return false;
            }
            at++;
            return true;
        }

        /** Reads as many digits as the greatest number allows; a number that begins with 0 is 0. */
        private boolean readNumber(int greatest) {
            int digit = digitHere();
            if (digit < 0 || digit > greatest) {
                return false;
            }
            value = digit;
            at++;
            while (at < length && value > 0) {
                digit = digitHere();
                if (digit < 0 || value * 10 + digit > greatest) {
                    return true;
                }
                value = value * 10 + digit;
                at++;
            }
            return true;
        }

        /** The digit at the place of the reading, or -1. */
        private int digitHere() {
            if (at >= length) {
                return -1;
            }
            char sign = signs[at];
            return sign >= '0' && sign <= '9' ? sign - '0' : -1;
        }
    }
}
