import java.util.Arrays;
import java.util.NoSuchElementException;

/** Strikes before the bench; the document's promises are kept one method each. */
public final class StrikeBench {
    public static final int NONE = -1;
    public static final int NOBODY = -100000;

    private static final int TAPE_MOST = 500;
    private static final int JURORS_MOST = 10;
    private static final int TALES_MOST = 4;
    private static final int PEOPLE_MOST = JURORS_MOST + TALES_MOST;
    private static final int TURNS_MOST = 8;
    private static final int SEATS_MOST = 6;
    private static final int SPARE_MOST = 3;
    private static final int ACTS_KEPT = 8;
    // The present table, those of the acts that are kept, and one that is free to be written.
    private static final int TABLES = ACTS_KEPT + 2;
    private static final int SETS_OF_ROW = 1 << JURORS_MOST;
    private static final int NAMED_MOST = 3;
    // 1 + 10 + 45 + 120: sets of at most three out of ten.
    private static final int NAMED_SETS = 176;

    private final byte[] tape;
    private int tapeLength;
    private final Table[] tables;
    private int tableAt;
    private Table now;
    private int kept;
    private int faultPlace;
    private int noSuch;
    private int badArgument;
    private int badState;
    private final Parser parser;
    private final Field field;
    private final Lookahead ahead;
    private boolean aheadIsNow;
    private final AtOnce atOnce;
    private boolean atOnceIsNow;

    public StrikeBench() {
        tables = new Table[TABLES];
        for (int i = 0; i < TABLES; i++) {
            tables[i] = new Table();
        }
        now = tables[0];
        faultPlace = NONE;
        parser = new Parser();
        tape = parser.bytes;
        ahead = new Lookahead();
        field = ahead.field;
        atOnce = new AtOnce();
    }

    public int feed(int a, int b, int c, int d, int e) {
        if (tapeLength > TAPE_MOST - 20) {
            return NONE;
        }
        putNumber(a);
        putNumber(b);
        putNumber(c);
        putNumber(d);
        putNumber(e);
        return tapeLength;
    }

    public int text(int n) throws IllegalArgumentException {
        if (n < 0 || n > tapeLength) {
            badArgument++;
            throw new IllegalArgumentException("the tape has not so many bytes");
        }
        Table next = freeTable();
        int fault = parser.read(next, n);
        tapeLength = 0;
        if (fault != 0) {
            faultPlace = parser.faultAt;
            return fault - 10;
        }
        faultPlace = NONE;
        parser.hear(next);
        next.fillRow();
        keepAct();
        return now.rowLength;
    }

    public int fault() {
        return faultPlace;
    }

    public int strike(int juror) throws NoSuchElementException, IllegalStateException {
        needInRow(juror);
        if (!now.mayStrike(juror)) {
            badState++;
            throw new IllegalStateException("he can't be struck now");
        }
        Table next = copyOfNow();
        next.strikers[juror] = next.turnBits & 1;
        next.endTurn();
        keepAct();
        return now.turnsLeft;
    }

    public int pass() throws IllegalStateException {
        if (now.turnsLeft == 0) {
            badState++;
            throw new IllegalStateException("no turn is left");
        }
        copyOfNow().endTurn();
        keepAct();
        return now.turnsLeft;
    }

    public int rule(int what, int n) throws IllegalArgumentException {
        if (!isRule(what, n)) {
            badArgument++;
            throw new IllegalArgumentException("no such rule");
        }
        Table next = copyOfNow();
        int before;
        if (what == 0) {
            before = next.seats;
            next.seats = n;
        } else if (what == 1) {
            before = next.spares;
            next.spares = n;
        } else {
            before = next.box ? 1 : 0;
            next.box = n == 1;
        }
        keepAct();
        return before;
    }

    public int order(int n, int bits) throws IllegalArgumentException {
        if (n < 0 || n > TURNS_MOST || bits < 0 || bits >= 1 << n) {
            badArgument++;
            throw new IllegalArgumentException("no such order");
        }
        Table next = copyOfNow();
        int before = next.turnsLeft;
        next.turnsLeft = n;
        next.turnBits = bits;
        keepAct();
        return before;
    }

    public int undo() {
        if (kept == 0) {
            return NONE;
        }
        kept--;
        moveTo(tableAt == 0 ? TABLES - 1 : tableAt - 1);
        return kept;
    }

    public int told(int what) throws IllegalArgumentException {
        switch (what) {
            case 0: return now.jurors;
            case 1: return now.talesmen;
            case 2: return now.excused;
            case 3: return now.rowLength;
            case 4: return now.seats;
            case 5: return now.spares;
            case 6: return now.box ? 1 : 0;
            case 7: return now.turnsLeft;
            case 8: return now.howManyStruck();
            case 9: return now.turnsLeft == 0 ? NONE : now.turnBits & 1;
            case 10: return tapeLength;
            case 11: return kept;
            default:
                badArgument++;
                throw new IllegalArgumentException("nothing such is told");
        }
    }

    public int juror(int juror, int what) throws NoSuchElementException, IllegalArgumentException {
        if (juror < 0 || juror >= now.people()) {
            noSuch++;
            throw new NoSuchElementException("no such number");
        }
        switch (what) {
            case 0: return now.worths[0][juror];
            case 1: return now.worths[1][juror];
            case 2: return now.ages[juror];
            case 3: return now.kins[juror];
            case 4: return now.excusers[juror];
            case 5: return now.strikers[juror];
            case 6: return now.placeInRow(juror);
            case 7: return now.isInBox(juror) ? 1 : 0;
            default:
                badArgument++;
                throw new IllegalArgumentException("nothing such of a juror");
        }
    }

    public int seat(int i, boolean spare) throws IllegalArgumentException {
        if (i < 0) {
            badArgument++;
            throw new IllegalArgumentException("below 0");
        }
        if (i >= (spare ? now.spares : now.seats)) {
            return NOBODY;
        }
        return now.unstruck(spare ? now.seats + i : i);
    }

    public int turn(int i) throws NoSuchElementException {
        needTurn(i);
        return now.turnBits >> i & 1;
    }

    public int worth(int side) throws IllegalArgumentException {
        needSide(side);
        seeField();
        return field.endWorth(side, 0);
    }

    public int value(int side) throws IllegalArgumentException {
        needSide(side);
        lookAhead();
        return ahead.values[side][0];
    }

    public int best() {
        lookAhead();
        return ahead.whom(0, 0);
    }

    public int line(int i) throws IllegalArgumentException {
        if (i < 0) {
            badArgument++;
            throw new IllegalArgumentException("below 0");
        }
        lookAhead();
        return ahead.whom(i, ahead.struckAfter(i, 0));
    }

    public int cost(int juror) throws NoSuchElementException, IllegalStateException {
        if (juror != NONE) {
            needInRow(juror);
        }
        if (juror == NONE ? now.turnsLeft == 0 : !now.mayStrike(juror)) {
            badState++;
            throw new IllegalStateException("it can't be done now");
        }
        lookAhead();
        int side = now.turnBits & 1;
        return ahead.values[side][0] - ahead.valueBehind(side, field.placeOf(juror));
    }

    public int states() {
        seeField();
        return ahead.howManyStates(now.turnsLeft);
    }

    public int more(int side, boolean first) throws IllegalArgumentException {
        needSide(side);
        int bits = first ? now.turnBits << 1 | side : now.turnBits | side << now.turnsLeft;
        return valueIf(side, NONE, now.turnsLeft + 1, bits);
    }

    public int other(int side, int i) throws NoSuchElementException, IllegalArgumentException {
        needTurn(i);
        needSide(side);
        return valueIf(side, NONE, now.turnsLeft, now.turnBits ^ 1 << i);
    }

    public int without(int side, int juror)
            throws NoSuchElementException, IllegalArgumentException, IllegalStateException {
        needInRow(juror);
        needSide(side);
        if (now.isStruck(juror)) {
            badState++;
            throw new IllegalStateException("he is struck");
        }
        return valueIf(side, juror, now.turnsLeft, now.turnBits);
    }

    public int plain(int side, int bits) throws IllegalArgumentException {
        needSide(side);
        if (bits < 0 || bits > 3) {
            badArgument++;
            throw new IllegalArgumentException("no such sides");
        }
        lookAhead();
        return field.endWorth(side, ahead.struckAfter(ahead.turns, bits));
    }

    public int once(int what) throws IllegalArgumentException, IllegalStateException {
        if (what < 0 || what > 4) {
            badArgument++;
            throw new IllegalArgumentException("nothing such of strikes at once");
        }
        int ofSecond = Integer.bitCount(now.turnBits);
        int ofFirst = now.turnsLeft - ofSecond;
        if (ofFirst > NAMED_MOST || ofSecond > NAMED_MOST) {
            badState++;
            throw new IllegalStateException("a side has too many turns left");
        }
        if (!atOnceIsNow) {
            seeField();
            atOnce.seek(field, ofFirst, ofSecond);
            atOnceIsNow = true;
        }
        return atOnce.answers[what];
    }

    public int count(int what, int n) throws IllegalArgumentException {
        if (what < 0 || what > 2) {
            badArgument++;
            throw new IllegalArgumentException("nothing such is counted");
        }
        int found = 0;
        int taken = 0;
        for (int i = 0; i < now.rowLength && taken < now.seats + now.spares; i++) {
            int number = now.row[i];
            if (!now.isStruck(number)) {
                taken++;
                boolean counts = what == 2 ? now.ages[number] < n : (now.kins[number] >> what & 1) == 1;
                found += counts ? 1 : 0;
            }
        }
        return found;
    }

    public long print() {
        long sum = 0;
        for (int i = 0; i < now.rowLength; i++) {
            sum = 31 * sum + now.row[i];
            sum = 31 * sum + now.strikers[now.row[i]];
        }
        return sum;
    }

    public int status(int what) {
        switch (what) {
            case 0: return noSuch;
            case 1: return badArgument;
            case 2: return badState;
            default: return NONE;
        }
    }

    private void needSide(int side) {
        if (side != 0 && side != 1) {
            badArgument++;
            throw new IllegalArgumentException("no such side");
        }
    }

    private void needInRow(int juror) {
        if (now.placeInRow(juror) == NONE) {
            noSuch++;
            throw new NoSuchElementException("no such one in the row");
        }
    }

    private void needTurn(int i) {
        if (i < 0 || i >= now.turnsLeft) {
            noSuch++;
            throw new NoSuchElementException("not so many turns are left");
        }
    }

    private static boolean isRule(int what, int n) {
        switch (what) {
            case 0: return n >= 1 && n <= SEATS_MOST;
            case 1: return n >= 0 && n <= SPARE_MOST;
            case 2: return n == 0 || n == 1;
            default: return false;
        }
    }

    private void putNumber(int number) {
        for (int shift = 24; shift >= 0 && tapeLength < TAPE_MOST; shift -= 8) {
            tape[tapeLength] = (byte) (number >> shift);
            tapeLength++;
        }
    }

    private Table freeTable() {
        return tables[tableAt == TABLES - 1 ? 0 : tableAt + 1];
    }

    private Table copyOfNow() {
        Table next = freeTable();
        next.copyFrom(now);
        return next;
    }

    /** What has been written on the free table is the present one from here on. */
    private void keepAct() {
        moveTo(tableAt == TABLES - 1 ? 0 : tableAt + 1);
        if (kept < ACTS_KEPT) {
            kept++;
        }
    }

    private void moveTo(int place) {
        tableAt = place;
        now = tables[place];
        aheadIsNow = false;
        atOnceIsNow = false;
    }

    /** The field may still be that of another game which was asked about. */
    private void seeField() {
        if (!aheadIsNow) {
            field.take(now, NONE);
        }
    }

    /** Looking back over all states is dear, so it is done once for each state that is asked about. */
    private void lookAhead() {
        if (!aheadIsNow) {
            seeField();
            ahead.lookBack(now.turnsLeft, now.turnBits);
            aheadIsNow = true;
        }
    }

    private int valueIf(int side, int leftOut, int turns, int bits) {
        aheadIsNow = false;
        field.take(now, leftOut);
        ahead.lookBack(turns, bits);
        return ahead.values[side][0];
    }

    /** All that an act can change, so that taking one back is a step to the table before. */
    private static final class Table {
        final int[][] worths;
        final int[] ages;
        final int[] kins;
        final int[] excusers;
        final int[] strikers;
        final int[] row;
        int jurors;
        int talesmen;
        int excused;
        int rowLength;
        int seats;
        int spares;
        boolean box;
        int turnsLeft;
        int turnBits;

        Table() {
            worths = new int[2][PEOPLE_MOST];
            ages = new int[PEOPLE_MOST];
            kins = new int[PEOPLE_MOST];
            excusers = new int[PEOPLE_MOST];
            strikers = new int[PEOPLE_MOST];
            row = new int[JURORS_MOST];
            clear();
        }

        void clear() {
            Arrays.fill(excusers, NONE);
            Arrays.fill(strikers, NONE);
            jurors = 0;
            talesmen = 0;
            excused = 0;
            rowLength = 0;
            seats = 2;
            spares = 0;
            box = false;
            turnsLeft = 0;
            turnBits = 0;
        }

        void copyFrom(Table from) {
            System.arraycopy(from.worths[0], 0, worths[0], 0, PEOPLE_MOST);
            System.arraycopy(from.worths[1], 0, worths[1], 0, PEOPLE_MOST);
            System.arraycopy(from.ages, 0, ages, 0, PEOPLE_MOST);
            System.arraycopy(from.kins, 0, kins, 0, PEOPLE_MOST);
            System.arraycopy(from.excusers, 0, excusers, 0, PEOPLE_MOST);
            System.arraycopy(from.strikers, 0, strikers, 0, PEOPLE_MOST);
            System.arraycopy(from.row, 0, row, 0, JURORS_MOST);
            jurors = from.jurors;
            talesmen = from.talesmen;
            excused = from.excused;
            rowLength = from.rowLength;
            seats = from.seats;
            spares = from.spares;
            box = from.box;
            turnsLeft = from.turnsLeft;
            turnBits = from.turnBits;
        }

        int people() {
            return jurors + talesmen;
        }

        /** Tales are told at places of their own, as it is not known then how many jurors there will be. */
        void fillRow() {
            for (int i = 0; i < talesmen; i++) {
                movePerson(JURORS_MOST + i, jurors + i);
            }
            for (int number = 0; number < jurors; number++) {
                if (excusers[number] == NONE) {
                    addToRow(number);
                }
            }
            for (int i = 0; i < talesmen && i < excused; i++) {
                addToRow(jurors + i);
            }
        }

        void movePerson(int from, int to) {
            worths[0][to] = worths[0][from];
            worths[1][to] = worths[1][from];
            ages[to] = ages[from];
            kins[to] = kins[from];
        }

        void addToRow(int number) {
            if (rowLength < JURORS_MOST) {
                row[rowLength] = number;
                rowLength++;
            }
        }

        int placeInRow(int number) {
            for (int i = 0; i < rowLength; i++) {
                if (row[i] == number) {
                    return i;
                }
            }
            return NONE;
        }

        boolean isStruck(int number) {
            return number >= 0 && number < PEOPLE_MOST && strikers[number] != NONE;
        }

        int howManyStruck() {
            int struck = 0;
            for (int i = 0; i < rowLength; i++) {
                struck += isStruck(row[i]) ? 1 : 0;
            }
            return struck;
        }

        /** The place-th of the row, from 0 on, who is not struck. */
        int unstruck(int place) {
            int ahead = 0;
            for (int i = 0; i < rowLength; i++) {
                if (!isStruck(row[i])) {
                    if (ahead == place) {
                        return row[i];
                    }
                    ahead++;
                }
            }
            return NOBODY;
        }

        boolean isInBox(int number) {
            for (int i = 0; i < seats; i++) {
                if (unstruck(i) == number) {
                    return true;
                }
            }
            return false;
        }

        /** Asked of one who is in the row. */
        boolean mayStrike(int number) {
            return turnsLeft > 0 && !isStruck(number) && (!box || isInBox(number));
        }

        void endTurn() {
            turnsLeft--;
            turnBits >>= 1;
        }
    }

    /** A condition of the small language, as steps in which the parts stand ahead of what joins them. */
    private static final class Clause {
        static final int LESS = 0;
        static final int EQUAL = 1;
        static final int GREATER = 2;
        static final int NOT = 3;
        static final int AND = 4;
        static final int OR = 5;
        // Numbers of a condition are at most 99, so greater ones can stand for what is asked of a juror.
        static final int FIRST = 100;
        static final int SECOND = 101;
        static final int AGE = 102;
        static final int KIN = 103;
        static final int GAP = 104;
        // A step has more than two bytes of a text on average, so a text has fewer steps than this.
        static final int STEPS_MOST = 256;

        final int[] steps;
        final int[] lefts;
        final int[] rights;
        int length;

        Clause() {
            steps = new int[STEPS_MOST];
            lefts = new int[STEPS_MOST];
            rights = new int[STEPS_MOST];
        }

        void add(int step, int left, int right) {
            if (length < STEPS_MOST) {
                steps[length] = step;
                lefts[length] = left;
                rights[length] = right;
                length++;
            }
        }

        boolean isTold() {
            return length > 0;
        }

        /** The truths that are not joined yet stand as bits, the latest lowest: nesting keeps them few. */
        boolean holds(Table table, int juror) {
            int truths = 0;
            for (int i = 0; i < length; i++) {
                int latest = truths & 1;
                switch (steps[i]) {
                    case NOT:
                        truths ^= 1;
                        break;
                    case AND:
                        truths = truths >> 1 & (latest | ~1);
                        break;
                    case OR:
                        truths = truths >> 1 | latest;
                        break;
                    default:
                        truths = truths << 1 | (compares(i, table, juror) ? 1 : 0);
                        break;
                }
            }
            return (truths & 1) == 1;
        }

        boolean compares(int i, Table table, int juror) {
            int left = numberOf(lefts[i], table, juror);
            int right = numberOf(rights[i], table, juror);
            switch (steps[i]) {
                case LESS: return left < right;
                case EQUAL: return left == right;
                default: return left > right;
            }
        }

        static int numberOf(int operand, Table table, int juror) {
            switch (operand) {
                case FIRST: return table.worths[0][juror];
                case SECOND: return table.worths[1][juror];
                case AGE: return table.ages[juror];
                case KIN: return table.kins[juror];
                case GAP: return table.worths[0][juror] - table.worths[1][juror];
                default: return operand;
            }
        }
    }

    /** Reads a text from its first byte on and stops at the first fault, which so is the least one. */
    private static final class Parser {
        static final int MISPLACED = 1;
        static final int BAD_NUMBER = 2;
        static final int TOO_MANY = 3;
        static final int TOO_DEEP = 4;
        static final int NO_JUROR = 5;
        static final int NESTED_MOST = 4;
        static final int SEATS = 1;
        static final int SPARE = 2;
        static final int TURNS = 4;
        static final int BOX = 8;
        static final int BENCH = 16;
        static final int GRANT = 32;
        static final int CAUSE = 64;

        final byte[] bytes;
        final Clause causeOfFirst;
        final Clause causeOfSecond;
        final Clause bench;
        int length;
        int at;
        int number;
        int seen;
        int grant;
        int faultKind;
        int faultAt;

        Parser() {
            bytes = new byte[TAPE_MOST];
            causeOfFirst = new Clause();
            causeOfSecond = new Clause();
            bench = new Clause();
        }

        /** Answers the fault, 0 without one. */
        int read(Table table, int n) {
            length = n;
            at = 0;
            seen = 0;
            grant = 9;
            faultKind = 0;
            causeOfFirst.length = 0;
            causeOfSecond.length = 0;
            bench.length = 0;
            table.clear();
            skipBlanks();
            for (int lines = 0; lines < TAPE_MOST && at < length; lines++) {
                if (!readLine(table) || !readSign(';')) {
                    return faultKind;
                }
                skipBlanks();
            }
            if (table.jurors == 0) {
                fail(NO_JUROR, length);
            }
            return faultKind;
        }

        /** Who is excused, juror by juror, by the causes that were read. */
        void hear(Table table) {
            int grantedToFirst = 0;
            int grantedToSecond = 0;
            for (int juror = 0; juror < table.jurors; juror++) {
                if (grantedToFirst < grant && isCause(causeOfFirst, table, juror)) {
                    table.excusers[juror] = 0;
                    grantedToFirst++;
                } else if (grantedToSecond < grant && isCause(causeOfSecond, table, juror)) {
                    table.excusers[juror] = 1;
                    grantedToSecond++;
                }
            }
            table.excused = grantedToFirst + grantedToSecond;
        }

        boolean isCause(Clause cause, Table table, int juror) {
            return cause.holds(table, juror) && (!bench.isTold() || bench.holds(table, juror));
        }

        boolean fail(int kind, int place) {
            faultKind = kind;
            faultAt = place;
            return false;
        }

        boolean readLine(Table table) {
            int word = at;
            if (takeWord("juror")) {
                return readJuror(table, word);
            }
            if (takeWord("tales")) {
                return readTales(table, word);
            }
            if (takeWord("seats")) {
                return isFirst(SEATS, word) && readSeats(table);
            }
            if (takeWord("spare")) {
                return isFirst(SPARE, word) && readSpare(table);
            }
            if (takeWord("turns")) {
                return isFirst(TURNS, word) && readTurns(table);
            }
            if (takeWord("box")) {
                table.box = true;
                return isFirst(BOX, word);
            }
            if (takeWord("cause")) {
                return readSideOfCause() && readAny(number == 0 ? causeOfFirst : causeOfSecond, 0);
            }
            if (takeWord("bench")) {
                return isFirst(BENCH, word) && readAny(bench, 0);
            }
            if (takeWord("grant")) {
                return isFirst(GRANT, word) && readGrant();
            }
            return fail(MISPLACED, word);
        }

        boolean isFirst(int once, int place) {
            if ((seen & once) != 0) {
                return fail(MISPLACED, place);
            }
            seen |= once;
            return true;
        }

        boolean readJuror(Table table, int word) {
            if (table.jurors >= JURORS_MOST) {
                return fail(TOO_MANY, word);
            }
            boolean sound = readPerson(table, table.jurors);
            table.jurors++;
            return sound;
        }

        boolean readTales(Table table, int word) {
            if (table.talesmen >= TALES_MOST) {
                return fail(TOO_MANY, word);
            }
            boolean sound = readPerson(table, JURORS_MOST + table.talesmen);
            table.talesmen++;
            return sound;
        }

        boolean readPerson(Table table, int place) {
            if (!readNumber(-50, 50)) {
                return false;
            }
            table.worths[0][place] = number;
            if (!readNumber(-50, 50)) {
                return false;
            }
            table.worths[1][place] = number;
            if (!readNumber(18, 99)) {
                return false;
            }
            table.ages[place] = number;
            if (!readNumber(0, 3)) {
                return false;
            }
            table.kins[place] = number;
            return true;
        }

        boolean readSeats(Table table) {
            boolean sound = readNumber(1, SEATS_MOST);
            table.seats = number;
            return sound;
        }

        boolean readSpare(Table table) {
            boolean sound = readNumber(0, SPARE_MOST);
            table.spares = number;
            return sound;
        }

        boolean readGrant() {
            boolean sound = readNumber(0, 9);
            grant = number;
            return sound;
        }

        /** A ninth side is a fault as anything else is that stands where the line must end. */
        boolean readTurns(Table table) {
            for (int i = 0; i < TURNS_MOST; i++) {
                skipBlanks();
                int side = sideHere();
                if (side == NONE) {
                    return true;
                }
                at++;
                table.turnBits |= side << i;
                table.turnsLeft++;
            }
            return true;
        }

        boolean readSideOfCause() {
            skipBlanks();
            number = sideHere();
            if (number == NONE) {
                return fail(MISPLACED, at);
            }
            int place = at;
            at++;
            return isFirst(CAUSE << number, place);
        }

        private boolean readAny(Clause clause, int nested) {
            if (!readEach(clause, nested)) {
                return false;
            }
            for (int more = 0; more < TAPE_MOST && takeWord("or"); more++) {
                if (!readEach(clause, nested)) {
                    return false;
                }
                clause.add(Clause.OR, 0, 0);
            }
            return true;
        }

        private boolean readEach(Clause clause, int nested) {
            if (!readOne(clause, nested)) {
                return false;
            }
            for (int more = 0; more < TAPE_MOST && takeWord("and"); more++) {
                if (!readOne(clause, nested)) {
                    return false;
                }
                clause.add(Clause.AND, 0, 0);
            }
            return true;
        }

        private boolean readOne(Clause clause, int nested) {
            skipBlanks();
            int start = at;
            boolean isNot = takeWord("not");
            if (!isNot && !isHere('(')) {
                return readComparison(clause);
            }
            if (nested >= NESTED_MOST) {
                return fail(TOO_DEEP, start);
            }
            if (isNot) {
                boolean sound = readOne(clause, nested + 1);
                clause.add(Clause.NOT, 0, 0);
                return sound;
            }
            at++;
            return readAny(clause, nested + 1) && readSign(')');
        }

        boolean readComparison(Clause clause) {
            if (!readOperand()) {
                return false;
            }
            int left = number;
            skipBlanks();
            int step = isHere('<') ? Clause.LESS : isHere('=') ? Clause.EQUAL : Clause.GREATER;
            if (step == Clause.GREATER && !isHere('>')) {
                return fail(MISPLACED, at);
            }
            at++;
            if (!readOperand()) {
                return false;
            }
            clause.add(step, left, number);
            return true;
        }

        boolean readOperand() {
            if (takeWord("first")) {
                number = Clause.FIRST;
            } else if (takeWord("second")) {
                number = Clause.SECOND;
            } else if (takeWord("age")) {
                number = Clause.AGE;
            } else if (takeWord("kin")) {
                number = Clause.KIN;
            } else if (takeWord("gap")) {
                number = Clause.GAP;
            } else {
                return readNumber(-99, 99);
            }
            return true;
        }

        /** A minus may stand ahead only where numbers below 0 may be. */
        boolean readNumber(int least, int most) {
            skipBlanks();
            int start = at;
            boolean minus = least < 0 && isHere('-');
            if (minus) {
                at++;
                skipBlanks();
            }
            int digits = at;
            int size = 0;
            for (int i = digits; i < length && bytes[i] >= '0' && bytes[i] <= '9'; i++) {
                // Held at 1000, as none so great is fit and any length may stand there.
                size = Math.min(10 * size + bytes[i] - '0', 1000);
                at++;
            }
            if (at == digits) {
                return fail(MISPLACED, at);
            }
            number = minus ? -size : size;
            return number >= least && number <= most || fail(BAD_NUMBER, start);
        }

        boolean readSign(char sign) {
            skipBlanks();
            if (!isHere(sign)) {
                return fail(MISPLACED, at);
            }
            at++;
            return true;
        }

        void skipBlanks() {
            for (int i = at; i < length && bytes[i] == ' '; i++) {
                at++;
            }
        }

        boolean isHere(char sign) {
            return at < length && bytes[at] == sign;
        }

        int sideHere() {
            return isHere('a') ? 0 : isHere('b') ? 1 : NONE;
        }

        /** Goes behind the word, if it is the one that stands here with all its letters. */
        boolean takeWord(String word) {
            skipBlanks();
            int end = at + word.length();
            if (end > length || end < length && bytes[end] >= 'a' && bytes[end] <= 'z') {
                return false;
            }
            for (int i = at; i < end; i++) {
                if (bytes[i] != word.charAt(i - at)) {
                    return false;
                }
            }
            at = end;
            return true;
        }
    }

    /** Those of the row who are not struck, by places from 0 on; sets of them are told as bits of places. */
    private static final class Field {
        final int[] numbers;
        final int[][] worths;
        int size;
        int seats;
        int spares;
        boolean box;

        Field() {
            numbers = new int[JURORS_MOST];
            worths = new int[2][JURORS_MOST];
        }

        void take(Table table, int leftOut) {
            size = 0;
            seats = table.seats;
            spares = table.spares;
            box = table.box;
            for (int i = 0; i < table.rowLength; i++) {
                int number = table.row[i];
                if (number != leftOut && !table.isStruck(number)) {
                    numbers[size] = number;
                    worths[0][size] = table.worths[0][number];
                    worths[1][size] = table.worths[1][number];
                    size++;
                }
            }
        }

        int placeOf(int number) {
            for (int i = 0; i < size; i++) {
                if (numbers[i] == number) {
                    return i;
                }
            }
            return NONE;
        }

        int endWorth(int side, int struck) {
            int[] worth = worths[side];
            int sum = 0;
            int taken = 0;
            for (int i = 0; i < size && taken < seats + spares; i++) {
                if ((struck >> i & 1) == 0) {
                    sum += taken < seats ? 2 * worth[i] : worth[i];
                    taken++;
                }
            }
            return sum;
        }

        /** How many of those who are not struck, from the first one on, may be struck. */
        int strikable() {
            return box ? seats : size;
        }

        /** The place whom plain play strikes; NONE: it passes. */
        int plainAct(int side, int struck) {
            int[] worth = worths[side];
            int least = NONE;
            int taken = 0;
            int behind = 0;
            for (int i = 0; i < size && taken <= seats; i++) {
                if ((struck >> i & 1) == 0) {
                    if (taken == seats) {
                        behind = worth[i];
                    } else if (least == NONE || worth[i] < worth[least]) {
                        least = i;
                    }
                    taken++;
                }
            }
            return least != NONE && worth[least] < behind ? least : NONE;
        }

        /** A set of places as a set of numbers. */
        int numbersOf(int places) {
            int set = 0;
            for (int i = 0; i < size; i++) {
                set |= (places >> i & 1) << numbers[i];
            }
            return set;
        }
    }

    /** Best play on a field, found from the last turn back. */
    private static final class Lookahead {
        static final int ACT_BITS = 4;
        static final int ACT_MASK = 15;

        final Field field;
        // By who is struck; a turn's values take the place of the next turn's.
        final int[][] values;
        final int[] passed;
        // By who is struck; four bits for each turn (0: it passes, else the place and 1), so that an object stays small.
        final long[] acts;
        final boolean[] reached;
        int turns;
        int bits;

        Lookahead() {
            field = new Field();
            values = new int[2][SETS_OF_ROW];
            passed = new int[2];
            acts = new long[SETS_OF_ROW];
            reached = new boolean[SETS_OF_ROW];
        }

        void lookBack(int turnCount, int turnBits) {
            turns = turnCount;
            bits = turnBits;
            int sets = 1 << field.size;
            for (int struck = 0; struck < sets; struck++) {
                acts[struck] = 0;
                if (Integer.bitCount(struck) <= turns) {
                    values[0][struck] = field.endWorth(0, struck);
                    values[1][struck] = field.endWorth(1, struck);
                }
            }
            for (int turn = turns - 1; turn >= 0; turn--) {
                passed[0] = values[0][0];
                passed[1] = values[1][0];
                // A state is told by sets that have more in them: rising, these are still the next turn's.
                for (int struck = 0; struck < sets; struck++) {
                    if (Integer.bitCount(struck) <= turn) {
                        choose(turn, struck);
                    }
                }
            }
        }

        void choose(int turn, int struck) {
            int side = bits >> turn & 1;
            int[] mine = values[side];
            int[] theirs = values[1 - side];
            int bestAfter = struck;
            int bestAct = NONE;
            int open = field.strikable();
            for (int i = 0; i < field.size && open > 0; i++) {
                int after = struck | 1 << i;
                if (after != struck) {
                    open--;
                    if (mine[after] > mine[bestAfter]
                            || mine[after] == mine[bestAfter] && theirs[after] > theirs[bestAfter]) {
                        bestAfter = after;
                        bestAct = i;
                    }
                }
            }
            mine[struck] = mine[bestAfter];
            theirs[struck] = theirs[bestAfter];
            acts[struck] |= (long) (bestAct + 1) << ACT_BITS * turn;
        }

        /** The place whom best play strikes; NONE: it passes. */
        int actOf(int turn, int struck) {
            return (int) (acts[struck] >> ACT_BITS * turn & ACT_MASK) - 1;
        }

        /** Whom best play strikes by number; NONE: it passes; NOBODY: there is no such turn. */
        int whom(int turn, int struck) {
            if (turn >= turns) {
                return NOBODY;
            }
            int act = actOf(turn, struck);
            return act == NONE ? NONE : field.numbers[act];
        }

        /** Value to a side of the state behind a strike of a place, or behind passing (NONE), now. */
        int valueBehind(int side, int place) {
            return place == NONE ? passed[side] : values[side][1 << place];
        }

        /** Who is struck behind the first turns, if sides whose bits are set play plain. */
        int struckAfter(int turnCount, int plainSides) {
            int struck = 0;
            for (int turn = 0; turn < turnCount && turn < turns; turn++) {
                int side = bits >> turn & 1;
                boolean isPlain = (plainSides >> side & 1) == 1;
                int act = isPlain ? field.plainAct(side, struck) : actOf(turn, struck);
                if (act != NONE) {
                    struck |= 1 << act;
                }
            }
            return struck;
        }

        int howManyStates(int turnCount) {
            for (int struck = 1; struck < SETS_OF_ROW; struck++) {
                reached[struck] = false;
            }
            reached[0] = true;
            int found = 1;
            for (int turn = 0; turn < turnCount; turn++) {
                found += reachOn();
            }
            return found;
        }

        /** By passing every set stays; those that come in are greater, so falling none of them is struck from. */
        int reachOn() {
            for (int struck = (1 << field.size) - 1; struck >= 0; struck--) {
                if (reached[struck]) {
                    reachFrom(struck);
                }
            }
            int found = 0;
            for (int struck = 0; struck < 1 << field.size; struck++) {
                found += reached[struck] ? 1 : 0;
            }
            return found;
        }

        void reachFrom(int struck) {
            int open = field.strikable();
            for (int i = 0; i < field.size && open > 0; i++) {
                if ((struck >> i & 1) == 0) {
                    open--;
                    reached[struck | 1 << i] = true;
                }
            }
        }
    }

    /** Strikes at once: couples of sets from which neither side would move. */
    private static final class AtOnce {
        final int[][] ends;
        final int[] setsOfFirst;
        final int[] setsOfSecond;
        final int[] mostToFirst;
        final int[] mostToSecond;
        // As they are asked for: how many rests, the two sets of the first one, its two worths.
        final int[] answers;

        AtOnce() {
            ends = new int[2][SETS_OF_ROW];
            setsOfFirst = new int[NAMED_SETS];
            setsOfSecond = new int[NAMED_SETS];
            mostToFirst = new int[NAMED_SETS];
            mostToSecond = new int[NAMED_SETS];
            answers = new int[5];
        }

        void seek(Field field, int ofFirst, int ofSecond) {
            for (int struck = 0; struck < 1 << field.size; struck++) {
                if (Integer.bitCount(struck) <= ofFirst + ofSecond) {
                    ends[0][struck] = field.endWorth(0, struck);
                    ends[1][struck] = field.endWorth(1, struck);
                }
            }
            int firsts = listSets(setsOfFirst, field.size, ofFirst);
            int seconds = listSets(setsOfSecond, field.size, ofSecond);
            for (int k = 0; k < seconds; k++) {
                mostToFirst[k] = mostWith(setsOfSecond[k], ends[0], setsOfFirst, firsts);
            }
            for (int i = 0; i < firsts; i++) {
                mostToSecond[i] = mostWith(setsOfFirst[i], ends[1], setsOfSecond, seconds);
            }
            gatherRests(field, firsts, seconds);
        }

        static int listSets(int[] sets, int size, int most) {
            int listed = 0;
            for (int set = 0; set < 1 << size && listed < NAMED_SETS; set++) {
                if (Integer.bitCount(set) <= most) {
                    sets[listed] = set;
                    listed++;
                }
            }
            return listed;
        }

        static int mostWith(int given, int[] worth, int[] sets, int listed) {
            int most = worth[given];
            for (int i = 0; i < listed; i++) {
                most = Math.max(most, worth[given | sets[i]]);
            }
            return most;
        }

        /** Sets are listed rising, and numbers rise with places, so the first rest that is met is the first one. */
        void gatherRests(Field field, int firsts, int seconds) {
            Arrays.fill(answers, NOBODY);
            answers[0] = 0;
            for (int i = 0; i < firsts; i++) {
                for (int k = 0; k < seconds; k++) {
                    int struck = setsOfFirst[i] | setsOfSecond[k];
                    if (ends[0][struck] == mostToFirst[k] && ends[1][struck] == mostToSecond[i]) {
                        if (answers[0] == 0) {
                            answers[1] = field.numbersOf(setsOfFirst[i]);
                            answers[2] = field.numbersOf(setsOfSecond[k]);
                            answers[3] = ends[0][struck];
                            answers[4] = ends[1][struck];
                        }
                        answers[0]++;
                    }
                }
            }
        }
    }
}
