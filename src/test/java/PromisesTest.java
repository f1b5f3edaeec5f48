/** Promise by promise: ordinary inputs, the edges that the document names, wrong inputs; worked out by hand or from the shared runs. */
public final class PromisesTest {
    private static final int NONE = StrikeBench.NONE;
    private static final int NOBODY = StrikeBench.NOBODY;
    private static final long NO_SUCH = Bench.NO_SUCH;
    private static final long BAD_ARGUMENT = Bench.BAD_ARGUMENT;
    private static final long BAD_STATE = Bench.BAD_STATE;
    private static final int LEAST = Integer.MIN_VALUE;
    private static final int MOST = Integer.MAX_VALUE;

    /** Worths (5,-3), (-2,4), (3,3), (0,1), (7,-7). */
    private static final String FIVE =
            "juror 5 -3 30 0;juror -2 4 40 1;juror 3 3 50 2;juror 0 1 60 3;juror 7 -7 20 0;";
    private static final String FIVE_AB = FIVE + "seats 2;spare 1;turns ab;";

    private PromisesTest() {
    }

    public static void main(String[] args) {
        newObject();
        feed();
        text();
        excused();
        fault();
        strike();
        pass();
        rule();
        order();
        undo();
        told();
        juror();
        seat();
        turn();
        worth();
        value();
        best();
        line();
        cost();
        states();
        more();
        other();
        without();
        plain();
        once();
        count();
        print();
        status();
        firstOfSeveralExceptions();
        throwingChangesNothing();
        askedNothingStaysChanged();
        Bench.end();
    }

    private static void due(String what, long want, Bench.Call call) {
        Bench.due(what, want, call);
    }

    private static String jurors(int n) {
        return "juror 1 2 20 0;".repeat(n);
    }

    private static void newObject() {
        StrikeBench x = new StrikeBench();
        int[] due = {0, 0, 0, 0, 2, 0, 0, 0, 0, NONE, 0, 0};
        for (int i = 0; i < due.length; i++) {
            int what = i;
            due("1: told " + i, due[i], () -> x.told(what));
        }
        due("1: states", 1, x::states);
        due("1: best", NOBODY, x::best);
        due("1: line", NOBODY, () -> x.line(0));
        due("1: value", 0, () -> x.value(1));
        due("1: more", 0, () -> x.more(1, true));
        due("1: plain", 0, () -> x.plain(0, 3));
        due("1: once, no row", 1, () -> x.once(0));
        due("1: once, empty sets", 0, () -> x.once(2));
        due("1: once, worth", 0, () -> x.once(4));
        due("1: print", 0, x::print);
        due("1: fault", NONE, x::fault);
        due("1: juror", NO_SUCH, () -> x.juror(0, 0));
        due("1: seat", NOBODY, () -> x.seat(0, false));
        due("1: cost of passing", BAD_STATE, () -> x.cost(NONE));
        due("1: a rule is an act ahead of any text", 2, () -> x.rule(0, 6));
        due("1: so is an order", 0, () -> x.order(2, 1));
        due("1: nobody to strike", NO_SUCH, () -> x.strike(0));
        due("1: passing", 1, x::pass);
        due("1: passing alone", 2, x::states);
    }

    private static void feed() {
        StrikeBench x = new StrikeBench();
        for (int i = 1; i <= 25; i++) {
            due("2: feed " + i, 20 * i, () -> x.feed(0x20202020, 0x20202020, 0x20202020, 0x20202020, 0x20202020));
        }
        due("2: the 26th", NONE, () -> x.feed(0, 0, 0, 0, 0));
        due("2: it did nothing", 500, () -> x.told(10));
        due("2: not a byte of it", -5, () -> x.text(500));
        due("2: blanks alone, so no juror", 500, x::fault);
        due("2: empty again", 0, () -> x.told(10));
        due("2: anew", 20, () -> x.feed(LEAST, -1, 0, 1, MOST));
        StrikeBench y = new StrikeBench();
        // The highest byte first: "box;" and then "BOX;".
        y.feed(0x626f783b, 0x424f583b, 0, 0, 0);
        due("2: highest byte first", -9, () -> y.text(8));
        due("2: the second number's first byte", 4, y::fault);
        StrikeBench z = new StrikeBench();
        z.feed(0x6a75726f, 0x72203120, 0x32203330, 0x20303bff, 0xffffffff);
        due("2: negative numbers are bytes, too", -9, () -> z.text(20));
        due("2: at the first of them", 15, z::fault);
    }

    private static void fails(String text, int kind, int place) {
        StrikeBench x = new StrikeBench();
        due("3: {" + text + "}", kind - 10, () -> Bench.tell(x, text));
        due("4: {" + text + "}", place, x::fault);
        due("3: nothing is told by {" + text + "}", 0, () -> x.told(0));
        due("3: no act is {" + text + "}", 0, () -> x.told(11));
    }

    private static void reads(String text, int row) {
        StrikeBench x = new StrikeBench();
        due("3: {" + text + "}", row, () -> Bench.tell(x, text));
        due("4: {" + text + "}", NONE, x::fault);
        due("3: an act is {" + text + "}", 1, () -> x.told(11));
        due("3: the tape is empty behind {" + text + "}", 0, () -> x.told(10));
    }

    private static void text() {
        StrikeBench x = new StrikeBench();
        Bench.feed(x, Bench.bytes(FIVE_AB));
        due("3: more than there are", BAD_ARGUMENT, () -> x.text(x.told(10) + 1));
        due("3: below 0", BAD_ARGUMENT, () -> x.text(-1));
        due("3: least", BAD_ARGUMENT, () -> x.text(LEAST));
        due("3: the tape stays", (FIVE_AB.length() + 19) / 20 * 20, () -> x.told(10));
        due("3: all of it", 5, () -> x.text(FIVE_AB.length()));
        due("3: empty", -5, () -> x.text(0));
        due("3: what was told stays", 5, () -> x.told(3));
        due("3: spare stays", 1, () -> x.told(5));
        x.strike(0);
        x.rule(2, 1);
        for (int i = 0; i < 10; i++) {
            // As often as there are tables, so that each has been written before.
            Bench.tell(x, FIVE_AB + "box;tales 1 1 20 0;cause a 1=1;cause b 1=1;bench 1=1;grant 1;");
        }
        due("3: anew", 1, () -> Bench.tell(x, "juror 1 2 20 0;"));
        due("3: no tales", 0, () -> x.told(1));
        due("3: nobody is excused", 0, () -> x.told(2));
        due("3: nothing of the causes", 4, () -> Bench.tell(x, jurors(3) + "juror 2 2 20 0;turns bb;"));
        due("3: nor of the bench", 0, () -> Bench.tell(x, "juror 1 2 20 0;cause b kin=0;"));
        due("3: nor of the grant", 0, () -> Bench.tell(x, jurors(3) + "cause b kin=0;"));
        due("3: for one who has no row", 1, () -> Bench.tell(x, "juror 1 2 20 0;"));
        due("3: nobody is struck", 0, () -> x.told(8));
        due("3: seats without", 2, () -> x.told(4));
        due("3: spare without", 0, () -> x.told(5));
        due("3: turns without", 0, () -> x.told(7));
        due("3: open without", 0, () -> x.told(6));

        readsWhatStandsClose();
        faultsOfSigns();
        faultsOfNumbers();
        faultsOfMany();
        faultsOfNesting();
    }

    private static void readsWhatStandsClose() {
        reads("juror5-3 30 0;", 1);
        reads("  juror  - 5 -  3 030 00003 ;  ", 1);
        reads("juror -50 50 18 0;juror 50 -50 99 3;", 2);
        reads("juror -0 -00 20 0;", 1);
        reads("box;turns;juror 1 1 20 0;seats1;spare0;grant0;", 1);
        reads("juror 1 1 20 0;turns a b  ab a ba b ;", 1);
        reads("juror 1 1 20 0;cause afirst=1;", 0);
        reads("juror 1 1 20 0;cause aage=20;", 0);
        reads("juror 1 1 20 0;cause bnot(kin=0)and 1=1or 1=0;", 1);
        reads("juror 1 1 20 0;bench-99<99;", 1);
        reads("juror 1 1 20 0;cause a - 99 < - 98;", 0);
        reads(jurors(10) + "tales 1 1 20 0;".repeat(4), 10);
        StringBuilder full = new StringBuilder("juror 1 1 20 0;bench 0=0");
        while (full.length() < 494) {
            full.append("or0=0");
        }
        while (full.length() < 499) {
            full.append(' ');
        }
        reads(full.append(';').toString(), 1);
        full.setLength(497);
        fails(full.append("box").toString(), 1, 497);
        fails(" ".repeat(497) + "box", 1, 500);
        fails(" ".repeat(494) + "seats2", 1, 500);
        fails(" ".repeat(495) + "cause", 1, 500);
        fails(" ".repeat(494) + "turnsa", 1, 494);
        fails(" ".repeat(493) + "turns a", 1, 500);
    }

    private static void faultsOfSigns() {
        fails("", 5, 0);
        fails("   ", 5, 3);
        fails("box;seats 3; ", 5, 13);
        fails(";", 1, 0);
        fails("box;;", 1, 4);
        fails("box", 1, 3);
        fails("box  ", 1, 5);
        fails("bo", 1, 0);
        fails("Box;", 1, 0);
        fails(" boxes;", 1, 1);
        fails("juror", 1, 5);
        fails("juror 1 1 20", 1, 12);
        fails("juror 1 1 20 0", 1, 14);
        fails("juror 1 1 20 0 0;", 1, 15);
        fails("juror 1 1 -20 0;", 1, 10);
        fails("juror 1 1 20 -0;", 1, 13);
        fails("spare -0;", 1, 6);
        fails("grant -0;", 1, 6);
        fails("boxz;", 1, 0);
        fails("box{;", 1, 3);
        fails("box`;", 1, 3);
        fails("juror -;", 1, 7);
        fails("juror - -1 1 20 0;", 1, 8);
        fails("juror --1 1 20 0;", 1, 7);
        fails("juror +1 1 20 0;", 1, 6);
        fails("juror 1,1 20 0;", 1, 7);
        fails("juror\t1 1 20 0;", 1, 5);
        fails("jurora 1 1 20 0;", 1, 0);
        fails("seats 2;box;seats 3;", 1, 12);
        fails("spare 2;spare 2;", 1, 8);
        fails("turns;turns;", 1, 6);
        fails("box; box;", 1, 5);
        fails("bench 1=1;bench 1=1;", 1, 10);
        fails("grant 1;grant 1;", 1, 8);
        fails("cause b 1=1;cause a 1=1;cause  b 1=1;", 1, 31);
        fails("cause c 1=1;", 1, 6);
        fails("cause 1=1;", 1, 6);
        fails("cause a;", 1, 7);
        fails("cause age=1;", 1, 7);
        fails("turns abab abab b;", 1, 16);
        fails("turns a1;", 1, 7);
        fails("turnsab;", 1, 0);
        fails("seats;", 1, 5);
        fails("seats -1;", 1, 6);
        fails("seats 2", 1, 7);
        fails("bench age;", 1, 9);
        fails("bench age=;", 1, 10);
        fails("bench age=kin=1;", 1, 13);
        fails("bench age==1;", 1, 10);
        fails("bench old=1;", 1, 6);
        fails("bench notage=1;", 1, 6);
        fails("bench not;", 1, 9);
        fails("bench (age=1;", 1, 12);
        fails("bench age=1);", 1, 11);
        fails("bench ();", 1, 7);
        fails("bench (age)=1;", 1, 10);
        fails("bench age=1 and;", 1, 15);
        fails("bench age=1 and or age=1;", 1, 16);
        fails("bench age=1 xor age=1;", 1, 12);
        fails("bench age=1 orage=1;", 1, 12);
        fails("bench age=1 or", 1, 14);
        fails("bench age=first5;", 1, 15);
        fails("bench or=1;", 1, 6);
    }

    private static void faultsOfNumbers() {
        fails("juror 51 1 20 0;", 2, 6);
        fails("juror -51 1 20 0;", 2, 6);
        fails("juror 1 51 20 0;", 2, 8);
        fails("juror 1 -51 20 0;", 2, 8);
        fails("juror 1 -  51 20 0;", 2, 8);
        fails("juror 1 1 17 0;", 2, 10);
        fails("juror 1 1 100 0;", 2, 10);
        fails("juror 1 1 20 4;", 2, 13);
        fails("tales 1 1 20 4;", 2, 13);
        fails("tales 99999999999999999999 1 20 4;", 2, 6);
        fails("juror 4294967297 1 20 0;", 2, 6);
        fails("juror 1 1 18446744073709551636 0;", 2, 10);
        fails("seats 0;", 2, 6);
        fails("seats 7;", 2, 6);
        fails("seats 7", 2, 6);
        fails("seats 7x", 2, 6);
        fails("spare 4;", 2, 6);
        fails("grant 10;", 2, 6);
        fails("bench age=100;", 2, 10);
        fails("bench -100=age;", 2, 6);
        fails("bench (- 100)=age;", 2, 7);
    }

    private static void faultsOfMany() {
        fails(jurors(10) + " juror", 3, 151);
        fails(jurors(10) + "jurors", 1, 150);
        fails("tales 1 1 20 0;".repeat(5), 3, 60);
        fails("tales 1 1 20 0;".repeat(4) + "seats 7;" + "tales 1 1 20 0;", 2, 66);
    }

    private static void faultsOfNesting() {
        reads("juror 1 1 20 0;cause a((((1=1))));", 0);
        fails("juror 1 1 20 0;cause a(((((1=1)))));", 4, 26);
        reads("juror 1 1 20 0;cause a not(not(1=1));", 0);
        fails("cause a not(not( (1=1)));", 4, 17);
        fails("cause a not(not(not 1=1 and(1=1)));", 4, 16);
        fails("cause a not(not 1=1 and(1=1 or not 1=1));", 5, 41);
        fails("cause a not(not 1=1 and(1=1 or(not 1=1)));", 4, 31);
        reads("juror 1 1 20 0;cause a not not not not 1=1 or not 1=1 or(((not 1=1)));", 0);
        fails("cause a (not(not 1=1 and(not 1=1)));", 4, 25);
        fails("cause a (not(not 1=1 and(1=2)));", 5, 32);
    }

    private static void excused() {
        StrikeBench x = Bench.of("tales 9 8 44 1;juror 5 -3 30 1;tales 8 8 26 0;juror -2 4 40 2;juror 3 3 70 0;"
                + "grant 1;juror 0 1 60 3;cause b first > 4 and not age > 35;bench age < 65;cause a kin=2 or kin=3;");
        due("3: row", 4, () -> x.told(3));
        due("3: by side 1", 1, () -> x.juror(0, 4));
        due("3: by side 0", 0, () -> x.juror(1, 4));
        due("3: not by the bench", NONE, () -> x.juror(2, 4));
        due("3: no more is granted", NONE, () -> x.juror(3, 4));
        due("3: tales behind jurors", 9, () -> x.juror(4, 0));
        due("3: in the order told", 26, () -> x.juror(5, 2));
        due("3: tales are not excused", NONE, () -> x.juror(5, 4));
        due("3: who fills", 3, () -> x.juror(5, 6));

        String three = "juror 1 2 20 1;juror 3 4 30 2;juror 5 6 40 3;tales 7 8 50 0;";
        StrikeBench both = Bench.of(three + "cause a 1=1;cause b 1=1;grant 1;");
        due("3: side 0 first", 0, () -> both.juror(0, 4));
        due("3: then side 1", 1, () -> both.juror(1, 4));
        due("3: then none", NONE, () -> both.juror(2, 4));
        due("3: as far as there are tales", 2, () -> both.told(3));
        StrikeBench all = Bench.of(three + "cause a 1=1;cause b 1=1;");
        due("3: side 0 alone", 0, () -> all.juror(2, 4));
        due("3: all are excused", 3, () -> all.told(2));
        due("3: he who fills alone", 3, () -> all.seat(0, false));
        StrikeBench none = Bench.of(three + "cause a 1=1;cause b 1=1;grant 0;");
        due("3: none is granted", 0, () -> none.told(2));
        due("3: tales without a place", NONE, () -> none.juror(3, 6));
        StrikeBench nine = Bench.of(jurors(10) + "cause b 1=1;");
        due("3: nine without a grant", 9, () -> nine.told(2));
        StrikeBench bench = Bench.of(three + "bench 1=1;");
        due("3: the bench alone excuses nobody", 0, () -> bench.told(2));
        conditions();
    }

    private static void holdsFor(String condition, boolean first, boolean second) {
        StrikeBench x = Bench.of("juror 5 -3 30 1;juror -2 4 60 2;cause a " + condition + ";");
        due("3: " + condition + " for the first", first ? 0 : NONE, () -> x.juror(0, 4));
        due("3: " + condition + " for the second", second ? 0 : NONE, () -> x.juror(1, 4));
    }

    private static void conditions() {
        holdsFor("first = 5", true, false);
        holdsFor("second < 0", true, false);
        holdsFor("age > 59", false, true);
        holdsFor("kin=2", false, true);
        holdsFor("gap = 8", true, false);
        holdsFor("-6 = gap", false, true);
        holdsFor("gap > 8", false, false);
        holdsFor("gap < -6", false, false);
        holdsFor("kin < kin", false, false);
        holdsFor("first > second", true, false);
        holdsFor("1=1 or 1=1 and 1=0", true, true);
        holdsFor("1=0 and 1=1 or 1=1", true, true);
        holdsFor("1=0 and (1=1 or 1=1)", false, false);
        holdsFor("not 1=1 or 1=1", true, true);
        holdsFor("not (1=1 or 1=1)", false, false);
        holdsFor("not 1=0 and 1=0", false, false);
        holdsFor("not not kin=1", true, false);
        holdsFor("1=0 or 1=0 or kin=2 and 1=1 and age>2", false, true);
        holdsFor("(1=1 and (1=0 or (1=1 and (kin=1 or kin=3))))", true, false);
    }

    private static void fault() {
        StrikeBench x = new StrikeBench();
        due("4: ahead of any", NONE, x::fault);
        Bench.tell(x, "box;seats 9;");
        due("4: place", 10, x::fault);
        due("4: throws", BAD_ARGUMENT, () -> x.text(1));
        due("4: one that threw does not count", 10, x::fault);
        Bench.tell(x, FIVE);
        due("4: without one", NONE, x::fault);
    }

    private static void strike() {
        StrikeBench x = Bench.of(FIVE_AB);
        due("5: not in the row", NO_SUCH, () -> x.strike(5));
        due("5: below 0", NO_SUCH, () -> x.strike(-1));
        due("5: least", NO_SUCH, () -> x.strike(LEAST));
        due("5: open, behind the box", 1, () -> x.strike(4));
        due("5: struck", BAD_STATE, () -> x.strike(4));
        due("5: the next side's", 0, () -> x.strike(0));
        due("5: by side 0", 0, () -> x.juror(4, 5));
        due("5: by side 1", 1, () -> x.juror(0, 5));
        due("5: no turn is left", BAD_STATE, () -> x.strike(1));
        due("5: no such one first", NO_SUCH, () -> x.strike(14));
        StrikeBench box = Bench.of(FIVE_AB + "box;");
        due("5: behind the box", BAD_STATE, () -> box.strike(2));
        due("5: in it", 1, () -> box.strike(1));
        due("5: moved up", 0, () -> box.strike(2));
        StrikeBench excused = Bench.of("juror 1 1 20 1;juror 1 1 20 0;tales 2 2 30 0;tales 3 3 30 0;cause b kin=1;turns ba;");
        due("5: excused", NO_SUCH, () -> excused.strike(0));
        due("5: who does not fill", NO_SUCH, () -> excused.strike(3));
        due("5: who fills", 1, () -> excused.strike(2));
        due("5: by side 1 first", 1, () -> excused.juror(2, 5));
    }

    private static void pass() {
        StrikeBench x = Bench.of(FIVE_AB);
        due("6: first", 1, x::pass);
        due("6: whose turn", 1, () -> x.told(9));
        due("6: second", 0, x::pass);
        due("6: none was", BAD_STATE, x::pass);
        due("6: nobody is struck", 0, () -> x.told(8));
    }

    private static void rule() {
        StrikeBench x = Bench.of(FIVE_AB);
        due("7: seats", 2, () -> x.rule(0, 6));
        due("7: they were", 6, () -> x.rule(0, 1));
        due("7: spare", 1, () -> x.rule(1, 3));
        due("7: it was", 3, () -> x.rule(1, 0));
        due("7: box", 0, () -> x.rule(2, 1));
        due("7: it was box", 1, () -> x.rule(2, 0));
        due("7: now", 1, () -> x.told(4));
        due("7: now spare", 0, () -> x.told(5));
        due("7: now open", 0, () -> x.told(6));
        int[][] wrong = {{0, 0}, {0, 7}, {1, -1}, {1, 4}, {2, -1}, {2, 2}, {3, 1}, {-1, 1}, {LEAST, MOST}};
        for (int[] w : wrong) {
            due("7: rule " + w[0] + " " + w[1], BAD_ARGUMENT, () -> x.rule(w[0], w[1]));
        }
        x.strike(0);
        x.pass();
        due("7: whatever turn it is", 1, () -> x.rule(0, 3));
        due("7: he is struck still", 0, () -> x.juror(0, 5));
    }

    private static void order() {
        StrikeBench x = Bench.of(FIVE_AB);
        due("8: eight", 2, () -> x.order(8, 0b10110010));
        due("8: from bit 0 on", 0, () -> x.turn(0));
        due("8: bit 1", 1, () -> x.turn(1));
        due("8: bit 7", 1, () -> x.turn(7));
        due("8: all bits", 8, () -> x.order(8, 255));
        due("8: nine", BAD_ARGUMENT, () -> x.order(9, 0));
        due("8: below 0", BAD_ARGUMENT, () -> x.order(-1, 0));
        due("8: another bit", BAD_ARGUMENT, () -> x.order(8, 256));
        due("8: of none", BAD_ARGUMENT, () -> x.order(0, 1));
        due("8: the sign", BAD_ARGUMENT, () -> x.order(8, LEAST));
        due("8: below 0 in bits", BAD_ARGUMENT, () -> x.order(3, -1));
        due("8: a great n", BAD_ARGUMENT, () -> x.order(MOST, 0));
        due("8: n of 32", BAD_ARGUMENT, () -> x.order(32, 0));
        x.strike(3);
        due("8: what is left", 7, () -> x.order(1, 0));
        due("8: who is struck stays", 1, () -> x.juror(3, 5));
        due("8: to none", 1, () -> x.order(0, 0));
        due("8: no side", NONE, () -> x.told(9));
    }

    private static void undo() {
        StrikeBench x = Bench.of(FIVE_AB);
        x.strike(1);
        x.rule(0, 3);
        x.order(3, 7);
        x.pass();
        due("9: a pass", 4, x::undo);
        due("9: turns", 3, () -> x.told(7));
        due("9: an order", 3, x::undo);
        due("9: turns are as they were", 1, () -> x.turn(0));
        due("9: one turn", 1, () -> x.told(7));
        due("9: a rule", 2, x::undo);
        due("9: seats", 2, () -> x.told(4));
        due("9: a strike", 1, x::undo);
        due("9: nobody is struck", 0, () -> x.told(8));
        due("9: a text", 0, x::undo);
        due("9: nothing is told", 0, () -> x.told(0));
        due("9: none could", NONE, x::undo);
        due("9: the tape does not come back", 0, () -> x.told(10));

        StrikeBench y = Bench.of(FIVE);
        for (int i = 1; i <= 12; i++) {
            y.order(4, i);
            due("9: kept behind " + i, Math.min(8, i + 1), () -> y.told(11));
        }
        for (int left = 7; left >= 0; left--) {
            due("9: eight deep", left, y::undo);
        }
        due("9: not a ninth", NONE, y::undo);
        due("9: the fourth's order", 1, () -> y.turn(2));
        due("9: and no other bit", 0, () -> y.turn(0) + y.turn(1) + y.turn(3));
        y.order(1, 0);
        due("9: on from there", 1, () -> y.told(11));
        due("9: back there", 0, y::undo);
        due("9: the fourth's again", 4, () -> y.told(7));
        for (int i = 0; i < 30; i++) {
            y.order(5, i);
        }
        for (int i = 0; i < 3; i++) {
            y.undo();
        }
        y.order(8, 255);
        y.pass();
        due("9: what was taken back is no act", 7, () -> y.told(11));
        for (int bits = 26; bits >= 22; bits--) {
            y.undo();
            if (bits == 26) {
                y.undo();
            }
            int want = bits;
            due("9: order " + bits, want,
                    () -> y.turn(0) | y.turn(1) << 1 | y.turn(2) << 2 | y.turn(3) << 3 | y.turn(4) << 4);
        }

        StrikeBench z = Bench.of(FIVE_AB);
        Bench.tell(z, "seats 9;");
        due("9: a text with a fault is no act", 1, () -> z.told(11));
        z.strike(2);
        Bench.tell(z, jurors(10));
        due("9: a text taken back", 2, z::undo);
        due("9: all it told", 5, () -> z.told(3));
        due("9: who was struck", 0, () -> z.juror(2, 5));
        for (int i = 0; i < 8; i++) {
            z.rule(1, i % 4);
        }
        Bench.tell(z, "seats 9;");
        due("9: a fault leaves eight", 7, z::undo);
        for (int left = 6; left >= 0; left--) {
            due("9: all of them", left, z::undo);
        }
        due("9: the row is as it was", 5, () -> z.told(3));
        due("9: spare is as it was", 1, () -> z.told(5));
        due("9: the strike is as it was", 0, () -> z.juror(2, 5));
    }

    private static void told() {
        StrikeBench x = Bench.of("juror 1 1 20 1;juror 1 1 20 0;juror 1 1 20 0;juror 2 2 22 0;tales 2 2 30 0;tales 3 3 30 0;"
                + "cause b kin=1;turns bab;box;seats 3;spare 2;");
        x.strike(1);
        x.feed(0, 0, 0, 0, 0);
        int[] due = {4, 2, 1, 4, 3, 2, 1, 2, 1, 0, 20, 2};
        for (int i = 0; i < due.length; i++) {
            int what = i;
            due("10: told " + i, due[i], () -> x.told(what));
        }
        due("10: 12", BAD_ARGUMENT, () -> x.told(12));
        due("10: below 0", BAD_ARGUMENT, () -> x.told(-1));
        due("10: least", BAD_ARGUMENT, () -> x.told(LEAST));
    }

    private static void juror() {
        StrikeBench x = Bench.of("juror 1 -2 20 1;juror 3 4 21 0;juror 5 6 22 2;tales -7 8 30 3;tales 9 9 31 0;"
                + "cause b kin=1;turns bab;seats 2;");
        int[][] due = {{1, -2, 20, 1, 1, NONE, NONE, 0}, {3, 4, 21, 0, NONE, 1, 0, 0}, {5, 6, 22, 2, NONE, NONE, 1, 1},
            {-7, 8, 30, 3, NONE, NONE, 2, 1}, {9, 9, 31, 0, NONE, NONE, NONE, 0}};
        x.strike(1);
        for (int j = 0; j < due.length; j++) {
            for (int i = 0; i < due[j].length; i++) {
                int number = j;
                int what = i;
                due("11: juror " + j + " " + i, due[j][i], () -> x.juror(number, what));
            }
        }
        due("11: no such number", NO_SUCH, () -> x.juror(5, 0));
        due("11: below 0", NO_SUCH, () -> x.juror(-1, 0));
        due("11: what 8", BAD_ARGUMENT, () -> x.juror(0, 8));
        due("11: what below 0", BAD_ARGUMENT, () -> x.juror(0, -1));
    }

    private static void seat() {
        StrikeBench x = Bench.of(FIVE + "seats 2;spare 2;turns ab;");
        x.strike(1);
        int[] box = {0, 2, NOBODY};
        int[] spare = {3, 4, NOBODY};
        for (int i = 0; i < 3; i++) {
            int place = i;
            due("12: box " + i, box[i], () -> x.seat(place, false));
            due("12: spare " + i, spare[i], () -> x.seat(place, true));
        }
        due("12: below 0", BAD_ARGUMENT, () -> x.seat(-1, false));
        due("12: below 0, spare", BAD_ARGUMENT, () -> x.seat(LEAST, true));
        due("12: far", NOBODY, () -> x.seat(MOST, true));
        x.rule(0, 6);
        due("12: a box that is not full", NOBODY, () -> x.seat(4, false));
        due("12: its last", 4, () -> x.seat(3, false));
        due("12: so no spare", NOBODY, () -> x.seat(0, true));
        x.rule(0, 3);
        due("12: one spare", 4, () -> x.seat(0, true));
        due("12: not two", NOBODY, () -> x.seat(1, true));
    }

    private static void turn() {
        StrikeBench x = Bench.of(FIVE + "turns abba;");
        due("13: 0", 0, () -> x.turn(0));
        due("13: 1", 1, () -> x.turn(1));
        due("13: 3", 0, () -> x.turn(3));
        due("13: 4", NO_SUCH, () -> x.turn(4));
        due("13: below 0", NO_SUCH, () -> x.turn(-1));
        x.pass();
        due("13: the next", 1, () -> x.turn(0));
        due("13: behind", NO_SUCH, () -> x.turn(3));
        due("13: far", NO_SUCH, () -> x.turn(MOST));
    }

    private static void worth() {
        StrikeBench x = Bench.of(FIVE_AB);
        // 2 * (5 - 2) + 3 and 2 * (-3 + 4) + 3
        due("14: to side 0", 9, () -> x.worth(0));
        due("14: to side 1", 5, () -> x.worth(1));
        x.strike(0);
        // 2 * (-2 + 3) + 0 and 2 * (4 + 3) + 1
        due("14: behind a strike", 2, () -> x.worth(0));
        due("14: to side 1 behind it", 15, () -> x.worth(1));
        x.rule(0, 6);
        due("14: fewer than seats", 16, () -> x.worth(0));
        due("14: side 2", BAD_ARGUMENT, () -> x.worth(2));
        due("14: below 0", BAD_ARGUMENT, () -> x.worth(-1));
        StrikeBench most = Bench.of("juror 50 -50 20 0;".repeat(10) + "seats 6;spare 3;");
        due("14: most", 750, () -> most.worth(0));
        due("14: least", -750, () -> most.worth(1));
    }

    private static void value() {
        StrikeBench x = Bench.of(FIVE_AB);
        due("15: to side 0", 16, () -> x.value(0));
        due("15: to side 1", 1, () -> x.value(1));
        due("15: side 2", BAD_ARGUMENT, () -> x.value(2));
        due("15: below 0", BAD_ARGUMENT, () -> x.value(-1));
        x.strike(0);
        // Side 1 would have 2 * (4 + 3) + 1, and can strike nobody for more.
        due("15: behind another act", 15, () -> x.value(1));
        due("15: and to side 0", 2, () -> x.value(0));
        x.pass();
        due("15: of an end", 2, () -> x.value(0));
        // Side 1 would have 18 of 1, but side 0 strikes him last: so both have 10 of 2.
        StrikeBench y = Bench.of("juror 1 0 20 0;juror 0 9 20 0;juror 5 5 20 0;seats 1;turns ba;");
        due("15: looking two turns on", 10, () -> y.value(1));
        due("15: the other too", 10, () -> y.value(0));
        StrikeBench box = Bench.of("juror 1 1 20 0;juror 0 0 20 0;juror 5 5 20 0;seats 1;box;turns ab;");
        due("15: with box, through it", 10, () -> box.value(0));
        StrikeBench one = Bench.of("juror 1 1 20 0;juror 0 0 20 0;juror 5 5 20 0;seats 1;box;turns a;");
        due("15: with box, not so far", 2, () -> one.value(0));
        StrikeBench last = Bench.of("juror -1 1 20 0;seats 1;turns a;");
        due("15: all struck", 0, () -> last.value(1));
        StrikeBench eight = Bench.of("juror 1 1 20 0;".repeat(9) + "juror 50 -50 20 0;seats 1;turns aaaaaaaa;");
        due("15: eight turns, not enough", 2, () -> eight.value(0));
        eight.rule(0, 2);
        due("15: eight turns, enough", 102, () -> eight.value(0));
    }

    private static void best() {
        StrikeBench x = Bench.of(FIVE_AB);
        due("16: strikes", 1, x::best);
        x.strike(1);
        due("16: passes", NONE, x::best);
        x.pass();
        due("16: no turn is left", NOBODY, x::best);
        // All are alike to side 0; of those whom one strike can bring side 1 has most of 1.
        StrikeBench tie = Bench.of("juror 3 1 20 0;juror 3 4 20 0;juror 3 9 20 0;seats 1;turns a;");
        due("16: most to the other", 0, tie::best);
        StrikeBench alike = Bench.of("juror 3 1 20 0;juror 3 1 20 0;juror 3 1 20 0;seats 1;turns b;");
        due("16: passing first", NONE, alike::best);
        StrikeBench least = Bench.of("juror 1 1 20 0;juror 2 2 20 0;juror 1 1 20 0;juror 2 2 20 0;seats 3;turns b;");
        due("16: the least number", 0, least::best);
        StrikeBench number = Bench.of("juror 1 1 20 1;juror 1 1 20 0;tales 5 5 30 0;seats 1;turns a;cause b kin=1;");
        due("16: by number, not by place", 1, number::best);
    }

    private static void line() {
        StrikeBench y = Bench.of(FIVE_AB);
        due("17: now", 1, () -> y.line(0));
        due("17: then", NONE, () -> y.line(1));
        due("17: no more", NOBODY, () -> y.line(2));
        due("17: far", NOBODY, () -> y.line(MOST));
        due("17: below 0", BAD_ARGUMENT, () -> y.line(-1));
        // Whom side 1 leaves of 0 and 1 side 0 strikes; that 2 is sworn is the best for both, by the least number.
        StrikeBench x = Bench.of("juror 1 0 20 0;juror 0 4 20 0;juror 5 5 20 0;seats 1;turns ba;");
        due("17: side 1", 0, () -> x.line(0));
        due("17: side 0", 1, () -> x.line(1));
        StrikeBench z = Bench.of("juror -1 0 20 0;juror -2 0 20 0;juror 5 5 20 0;seats 1;turns aa;");
        due("17: both, the least first", 0, () -> z.line(0));
        due("17: both, then the next", 1, () -> z.line(1));
        z.strike(1);
        due("17: from here on", 0, () -> z.line(0));
        due("17: not so many", NOBODY, () -> z.line(1));
    }

    private static void cost() {
        StrikeBench x = Bench.of(FIVE_AB);
        due("18: passing", 14, () -> x.cost(NONE));
        due("18: the best", 0, () -> x.cost(1));
        due("18: striking 3", 7, () -> x.cost(3));
        due("18: no such one", NO_SUCH, () -> x.cost(5));
        due("18: below NONE", NO_SUCH, () -> x.cost(-2));
        for (int j = 0; j < 5; j++) {
            int juror = j;
            StrikeBench by = Bench.of(FIVE_AB);
            by.strike(j);
            due("18: as by hand " + j, 16 - by.value(0), () -> x.cost(juror));
        }
        x.strike(1);
        due("18: struck", BAD_STATE, () -> x.cost(1));
        // Side 1 has 2 * (-3 + 3) + 1 here, and as much, 2 * (3 + 1) - 7, behind striking 0.
        due("18: to side 1", 0, () -> x.cost(0));
        due("18: of striking 2", 1 - (2 * (-3 + 1) - 7), () -> x.cost(2));
        due("18: of passing, to side 1", 0, () -> x.cost(NONE));
        x.pass();
        due("18: no turn is left", BAD_STATE, () -> x.cost(2));
        due("18: nor for passing", BAD_STATE, () -> x.cost(NONE));
        due("18: no such one, first", NO_SUCH, () -> x.cost(9));
        StrikeBench box = Bench.of(FIVE_AB + "box;");
        due("18: not in the box", BAD_STATE, () -> box.cost(2));
        StrikeBench number = Bench.of("juror 1 1 20 1;juror 1 1 20 0;tales 5 5 30 0;seats 1;turns a;cause b kin=1;");
        due("18: by number", 8, () -> number.cost(2));
        StrikeBench second = Bench.of("juror 9 1 20 0;juror 2 7 20 0;seats 1;turns b;");
        due("18: passing costs side 1", 12, () -> second.cost(NONE));
    }

    private static void states() {
        due("19: two turns", 1 + 6 + 16, () -> Bench.of(FIVE_AB).states());
        due("19: no turn", 1, () -> Bench.of(FIVE).states());
        StrikeBench x = Bench.of(FIVE_AB);
        x.strike(2);
        due("19: from here", 1 + 5, x::states);
        // With box: 2 can be struck now; of 0 struck 1 and 2, of 1 struck 0 and 2.
        due("19: with box", 1 + 3 + (1 + 2 + 3), () -> Bench.of(FIVE_AB + "box;").states());
        due("19: fewer than turns", 1 + 2 + 2, () -> Bench.of("juror 1 1 20 0;turns ab;").states());
        due("19: ten and eight", 1 + 11 + 56 + 176 + 386 + 638 + 848 + 968 + 1013,
                () -> Bench.of(jurors(10) + "turns abababab;").states());
    }

    private static void more() {
        StrikeBench x = Bench.of("juror 1 0 20 0;juror 0 1 20 0;seats 1;turns b;");
        // Side 1 strikes 0 and has 2.
        due("20: as it is", 0, () -> x.value(0));
        due("20: last", 0, () -> x.more(0, false));
        // Now: side 0 strikes 1, and striking 0 then would bring side 1 nothing, so it passes.
        due("20: now", 2, () -> x.more(0, true));
        StrikeBench y = Bench.of("juror -4 0 20 0;juror 1 5 20 0;juror 0 1 20 0;seats 1;turns b;");
        // Side 1 strikes 0 for 10; side 0, be its turn first or last, has no more than 2.
        due("20: as y is", 10, () -> y.value(1));
        due("20: a turn of side 0 now", 2, () -> y.more(0, true));
        due("20: a turn of side 1 last", 10, () -> y.more(1, false));
        due("20: side 2", BAD_ARGUMENT, () -> x.more(2, true));
        due("20: below 0", BAD_ARGUMENT, () -> x.more(-1, false));
        StrikeBench nine = Bench.of("juror 1 1 20 0;".repeat(9) + "juror 50 -50 20 0;seats 1;turns aaaaaaaa;");
        due("20: a ninth, last", 100, () -> nine.more(0, false));
        due("20: a ninth, first", 100, () -> nine.more(0, true));
        due("20: turns are as they were", 8, () -> nine.told(7));
        due("20: and their value", 2, () -> nine.value(0));
    }

    private static void other() {
        StrikeBench x = Bench.of(FIVE_AB);
        due("21: bb, to side 0", 2, () -> x.other(0, 0));
        due("21: bb, to side 1", 15, () -> x.other(1, 0));
        due("21: aa, to side 0", 23, () -> x.other(0, 1));
        due("21: aa, to side 1", -7, () -> x.other(1, 1));
        due("21: not so many", NO_SUCH, () -> x.other(0, 2));
        due("21: below 0", NO_SUCH, () -> x.other(0, -1));
        due("21: side 2", BAD_ARGUMENT, () -> x.other(2, 0));
        due("21: no turn first", NO_SUCH, () -> x.other(2, 2));
        due("21: turns are as they were", 0, () -> x.turn(0));
    }

    private static void without() {
        StrikeBench x = Bench.of(FIVE_AB);
        due("22: without 1, to side 0", 16, () -> x.without(0, 1));
        due("22: without 1, to side 1", 1, () -> x.without(1, 1));
        due("22: not in the row", NO_SUCH, () -> x.without(0, 5));
        due("22: below 0", NO_SUCH, () -> x.without(0, -1));
        due("22: side 2", BAD_ARGUMENT, () -> x.without(2, 0));
        x.strike(1);
        due("22: struck", BAD_STATE, () -> x.without(0, 1));
        due("22: side first", BAD_ARGUMENT, () -> x.without(-1, 1));
        // Left are 0, 2, 3, 4 and a turn of side 1; without 0 it is 2 * (3 + 1) - 7, and striking 4 makes it 8.
        due("22: behind a strike", 8, () -> x.without(1, 0));
        due("22: the row is as it was", 5, () -> x.told(3));
        StrikeBench fills = Bench.of("juror 1 1 20 1;juror 3 3 20 0;tales 5 5 30 0;tales 7 7 30 0;seats 2;cause b kin=1;");
        due("22: who fills is as it was", 10, () -> fills.without(0, 1));
        due("22: excused", NO_SUCH, () -> fills.without(0, 0));
        due("22: who does not fill", NO_SUCH, () -> fills.without(0, 3));
        StrikeBench last = Bench.of("juror 4 4 20 0;turns a;");
        due("22: nobody is left", 0, () -> last.without(0, 0));
    }

    private static void plain() {
        StrikeBench x = Bench.of(FIVE_AB);
        due("23: both", 13, () -> x.plain(0, 3));
        due("23: both, to side 1", 1, () -> x.plain(1, 3));
        due("23: side 0", 16, () -> x.plain(0, 1));
        due("23: side 1", 13, () -> x.plain(0, 2));
        due("23: none", 16, () -> x.plain(0, 0));
        due("23: bits 4", BAD_ARGUMENT, () -> x.plain(0, 4));
        due("23: bits below 0", BAD_ARGUMENT, () -> x.plain(0, -1));
        due("23: side 2", BAD_ARGUMENT, () -> x.plain(2, 0));
        due("23: side below 0", BAD_ARGUMENT, () -> x.plain(-1, 0));
        due("23: below 0 is struck, where none is behind", 2, () -> Bench.of(
                "juror -1 0 20 0;juror 1 0 20 0;turns a;").plain(0, 1));
        due("23: 0 is not", 6, () -> Bench.of("juror 0 3 20 0;turns a;").plain(1, 1));
        due("23: as much as the next is not", 4, () -> Bench.of(
                "juror 2 0 20 0;juror 2 5 20 0;seats 1;turns a;").plain(0, 1));
        due("23: nor is it for the other's sake", 0, () -> Bench.of(
                "juror 2 0 20 0;juror 2 5 20 0;seats 1;turns a;").plain(1, 1));
        due("23: of several the least number", 2 * (9 + 9), () -> Bench.of(
                "juror 1 0 20 0;juror 1 9 20 0;juror 2 9 20 0;seats 2;turns a;").plain(1, 1));
        due("23: nobody in the box", 0, () -> Bench.of("juror 1 1 20 0;cause a 1=1;turns ab;").plain(1, 3));
    }

    private static void once() {
        StrikeBench x = Bench.of(FIVE_AB);
        int[] due = {3, 2, 0, 16, 1};
        for (int i = 0; i < due.length; i++) {
            int what = i;
            due("24: once " + i, due[i], () -> x.once(what));
        }
        due("24: 5", BAD_ARGUMENT, () -> x.once(5));
        due("24: below 0", BAD_ARGUMENT, () -> x.once(-1));
        x.order(4, 0);
        due("24: four of side 0", BAD_STATE, () -> x.once(0));
        due("24: what first", BAD_ARGUMENT, () -> x.once(5));
        x.order(8, 0b11110000);
        due("24: four of each", BAD_STATE, () -> x.once(1));
        x.order(4, 15);
        due("24: four of side 1", BAD_STATE, () -> x.once(1));
        // Worked out in full: whatever one names, the other would rather have named another.
        StrikeBench none = Bench.of("juror 2 -2 20 0;juror 1 3 20 0;juror 3 -3 20 0;seats 1;spare 1;turns ab;");
        due("24: no rest", 0, () -> none.once(0));
        for (int what = 1; what <= 4; what++) {
            int w = what;
            due("24: of none " + what, NOBODY, () -> none.once(w));
        }
        // Numbers, not places: 0 is excused, so 1, 2 and he who fills (3) are in the row.
        StrikeBench number = Bench.of("juror 1 1 20 1;juror -1 -1 20 0;juror -2 -2 20 0;tales 5 5 30 0;seats 1;turns abb;cause b kin=1;");
        due("24: set of side 0 by numbers", 0, () -> number.once(1));
        due("24: set of side 1 by numbers", 0b110, () -> number.once(2));
        due("24: its worth", 10, () -> number.once(3));
        number.without(0, 1);
        due("24: behind another question", 0b110, () -> number.once(2));
        number.strike(1);
        due("24: who is struck is gone", 0b100, () -> number.once(2));
        number.rule(2, 1);
        due("24: open, whatever is told", 0b100, () -> number.once(2));
        StrikeBench box = Bench.of("juror 0 0 20 0;juror -5 0 20 0;juror 9 0 20 0;seats 1;spare 1;box;turns a;");
        due("24: open, though box is told", 0b011, () -> {
            box.order(2, 0);
            return box.once(1);
        });
        StrikeBench ten = Bench.of("juror 0 0 20 0;".repeat(10) + "turns ababab;");
        due("24: all couples", 176 * 176, () -> ten.once(0));
    }

    private static void count() {
        StrikeBench x = Bench.of(FIVE + "seats 2;spare 1;turns ab;");
        due("25: of side 0", 1, () -> x.count(0, 0));
        due("25: of side 1, the spare one", 1, () -> x.count(1, 0));
        due("25: below 41", 2, () -> x.count(2, 41));
        due("25: below 40", 1, () -> x.count(2, 40));
        due("25: all", 3, () -> x.count(2, MOST));
        due("25: none", 0, () -> x.count(2, LEAST));
        x.strike(0);
        due("25: of both counts for side 0", 2, () -> x.count(0, -7));
        due("25: of both counts for side 1", 2, () -> x.count(1, 99));
        due("25: 3", BAD_ARGUMENT, () -> x.count(3, 0));
        due("25: below 0", BAD_ARGUMENT, () -> x.count(-1, 0));
    }

    private static void print() {
        StrikeBench x = Bench.of(FIVE_AB);
        x.strike(1);
        due("26: of five", -825322000014L, x::print);
        StrikeBench y = Bench.of("juror 1 1 20 1;juror 1 1 20 0;tales 5 5 30 0;turns ba;cause b kin=1;");
        // 1, NONE, 2, NONE
        due("26: by number", ((1 * 31 - 1) * 31 + 2) * 31 - 1, y::print);
        y.strike(2);
        due("26: struck by side 1", ((1 * 31 - 1) * 31 + 2) * 31 + 1, y::print);
        StrikeBench ten = Bench.of(jurors(10));
        long sum = 0;
        for (int i = 0; i < 10; i++) {
            sum = 31 * (31 * sum + i) - 1;
        }
        due("26: ten", sum, ten::print);
    }

    private static void status() {
        StrikeBench x = Bench.of(FIVE_AB);
        Bench.answer(() -> x.strike(7));
        Bench.answer(() -> x.turn(7));
        Bench.answer(() -> x.told(12));
        Bench.answer(() -> x.strike(1));
        Bench.answer(() -> x.strike(1));
        Bench.answer(() -> x.without(0, 1));
        Bench.answer(() -> x.cost(1));
        x.undo();
        x.undo();
        x.undo();
        x.text(0);
        due("27: no such", 2, () -> x.status(0));
        everyRefusalCounts();
        due("27: arguments", 1, () -> x.status(1));
        due("27: states", 3, () -> x.status(2));
        due("27: 3", NONE, () -> x.status(3));
        due("27: below 0", NONE, () -> x.status(-1));
        due("27: no refusal itself", 1, () -> x.status(1));
    }

    private static void counts(String what, int kind, StrikeBench x, Bench.Call refused) {
        int[] before = {x.status(0), x.status(1), x.status(2)};
        Bench.answer(refused);
        for (int k = 0; k < 3; k++) {
            int of = k;
            due("27: " + what + " counts for " + k, before[k] + (k == kind ? 1 : 0), () -> x.status(of));
        }
    }

    private static void everyRefusalCounts() {
        StrikeBench x = Bench.of(FIVE_AB);
        counts("strike", 0, x, () -> x.strike(5));
        counts("juror", 0, x, () -> x.juror(5, 0));
        counts("turn", 0, x, () -> x.turn(2));
        counts("cost", 0, x, () -> x.cost(5));
        counts("other", 0, x, () -> x.other(0, 2));
        counts("without", 0, x, () -> x.without(0, 5));
        counts("text", 1, x, () -> x.text(1));
        counts("rule", 1, x, () -> x.rule(3, 0));
        counts("order", 1, x, () -> x.order(9, 0));
        counts("told", 1, x, () -> x.told(12));
        counts("juror, what", 1, x, () -> x.juror(0, 8));
        counts("seat", 1, x, () -> x.seat(-1, true));
        counts("worth", 1, x, () -> x.worth(2));
        counts("value", 1, x, () -> x.value(2));
        counts("line", 1, x, () -> x.line(-1));
        counts("more", 1, x, () -> x.more(2, true));
        counts("other, side", 1, x, () -> x.other(2, 0));
        counts("without, side", 1, x, () -> x.without(2, 0));
        counts("plain", 1, x, () -> x.plain(0, 4));
        counts("once", 1, x, () -> x.once(5));
        counts("count", 1, x, () -> x.count(3, 0));
        x.strike(0);
        counts("strike, struck", 2, x, () -> x.strike(0));
        counts("cost, struck", 2, x, () -> x.cost(0));
        counts("without, struck", 2, x, () -> x.without(0, 0));
        x.pass();
        counts("pass", 2, x, x::pass);
        counts("cost of passing", 2, x, () -> x.cost(NONE));
        x.order(4, 0);
        counts("once, four turns", 2, x, () -> x.once(0));
        counts("best", NONE, x, x::best);
        counts("status", NONE, x, () -> x.status(7));
    }

    private static void firstOfSeveralExceptions() {
        StrikeBench x = Bench.of(FIVE);
        due("juror: number first", NO_SUCH, () -> x.juror(5, 8));
        due("other: turn first", NO_SUCH, () -> x.other(5, 0));
        due("without: juror first", NO_SUCH, () -> x.without(5, 5));
        due("strike: juror first", NO_SUCH, () -> x.strike(5));
        due("one refusal each", 4, () -> x.status(0));
        due("none of another kind", 0, () -> x.status(1) + x.status(2));
    }

    private static void throwingChangesNothing() {
        StrikeBench x = Bench.of(FIVE_AB + "box;");
        long print = x.print();
        Bench.answer(() -> x.strike(3));
        Bench.answer(() -> x.strike(11));
        Bench.answer(() -> x.rule(0, 7));
        Bench.answer(() -> x.order(1, 2));
        Bench.answer(() -> x.text(1));
        due("acts", 1, () -> x.told(11));
        due("turns", 2, () -> x.told(7));
        due("print", print, x::print);
        due("fault", NONE, x::fault);
    }

    private static void askedNothingStaysChanged() {
        StrikeBench x = Bench.of(FIVE_AB);
        for (int i = 0; i < 3; i++) {
            due("value", 16, () -> x.value(0));
            x.without(0, 0);
            due("line behind without", 1, () -> x.line(0));
            x.more(1, true);
            due("best behind more", 1, x::best);
            x.other(0, 0);
            due("cost behind other", 14, () -> x.cost(NONE));
            x.without(1, 3);
            due("states behind without", 23, x::states);
            x.without(1, 3);
            due("plain behind without", 13, () -> x.plain(0, 3));
            x.without(1, 0);
            due("worth behind without", 9, () -> x.worth(0));
            x.without(1, 0);
            due("once behind without", 2, () -> x.once(1));
        }
        due("acts", 1, () -> x.told(11));
    }
}
