import java.math.BigInteger;

/**
 * The promises 1 to 27, sentence by sentence, at the edges that each names. The words ahead of each test are the
 * document's, behind the number of their promise; the answers are worked out by hand.
 */
public final class PromiseSentencesTest {
    private static final int NONE = StrikeBench.NONE;
    private static final int NOBODY = StrikeBench.NOBODY;
    private static final long NO_SUCH = Bench.NO_SUCH;
    private static final long BAD_ARGUMENT = Bench.BAD_ARGUMENT;
    private static final long BAD_STATE = Bench.BAD_STATE;
    private static final int LEAST = Integer.MIN_VALUE;
    private static final int MOST = Integer.MAX_VALUE;
    /** What is no number of anything: a little below 0, and the ends of int. */
    private static final int[] BELOW = {-1, -2, LEAST};

    /** Fifteen bytes, fed as twenty. */
    private static final String ONE = "juror 1 2 20 0;";
    /** Side 0 would have 1 sit (18 and 4), side 1 would have 0 sit (2 and 10). */
    private static final String TWO = "juror 1 5 20 0;juror 9 2 20 0;seats 1;";
    /** 0 is excused by side 1; in the row are 1, 2 and 3, who fills; 4 does not fill. */
    private static final String FILLED = "juror 1 -2 20 1;juror 3 4 21 0;juror 5 6 22 2;tales -7 8 30 3;tales 9 9 31 0;"
            + "cause b kin=1;";

    private PromiseSentencesTest() {
    }

    public static void main(String[] args) {
        told();
        acts();
        asked();
        lookedBack();
        whatIf();
        counted();
        Bench.end();
    }

    private static void told() {
        sentence("1: No JURORS, SEATS 2.", PromiseSentencesTest::newObject);
        sentence("NOBODY = -100000: A JUROR does not exist here.", PromiseSentencesTest::constants);
        sentence("2: Twenty bytes come on the TAPE", PromiseSentencesTest::twentyBytes);
        sentence("2: of each number the highest first", PromiseSentencesTest::highestFirst);
        sentence("2: how many there are", PromiseSentencesTest::howManyThereAre);
        sentence("2: NONE, doing nothing, if there would be more than 500.", PromiseSentencesTest::notMoreThan500);
        sentence("3: The first n bytes of the TAPE", PromiseSentencesTest::firstBytes);
        sentence("3: (all of it is empty then)", PromiseSentencesTest::tapeIsEmptyThen);
        sentence("3: tell all anew (nobody is STRUCK, no TURN was taken)", PromiseSentencesTest::tellAllAnew);
        sentence("3: tell all anew, however often it was told", PromiseSentencesTest::nothingOfFormerTexts);
        sentence("3: how many are in the ROW", PromiseSentencesTest::howManyInRow);
        sentence("3: or the FAULT less 10", PromiseSentencesTest::faultLess10);
        sentence("3: (all but the TAPE stays).", PromiseSentencesTest::allButTheTapeStays);
        sentence("3: IllegalArgumentException: n is not 0 to the TAPE's bytes", PromiseSentencesTest::notTheTapesBytes);
        sentence("3: (it stays).", PromiseSentencesTest::tapeStays);
        sentence("4: The place of the FAULT of the latest text() that threw nothing", PromiseSentencesTest::placeOfFault);
        sentence("4: NONE without one", PromiseSentencesTest::withoutFault);
        sentence("4: and ahead of any.", PromiseSentencesTest::aheadOfAnyText);
    }

    private static void acts() {
        sentence("5: The side whose TURN it is STRIKES: how many TURNS are left.", PromiseSentencesTest::strikes);
        sentence("5: NoSuchElementException: no such one in the ROW (so below).", PromiseSentencesTest::noSuchOneInRow);
        sentence("5: IllegalStateException: no TURN is left", PromiseSentencesTest::strikeWithoutTurn);
        sentence("5: IllegalStateException: he is STRUCK", PromiseSentencesTest::strikeTheStruck);
        sentence("5: IllegalStateException: not IN THE BOX (with BOX).", PromiseSentencesTest::strikeBehindTheBox);
        sentence("6: It PASSES: how many TURNS are left.", PromiseSentencesTest::passes);
        sentence("6: IllegalStateException: none was.", PromiseSentencesTest::passWithoutTurn);
        sentence("7: SEATS (what 0; 1 to 6)", () -> ruleWithin(0, 1, 6, 4));
        sentence("7: SPARE (1; 0 to 3)", () -> ruleWithin(1, 0, 3, 5));
        sentence("7: BOX (2; 0 OPEN, 1 BOX) becomes n", () -> ruleWithin(2, 0, 1, 6));
        sentence("7: whatever TURN it is", PromiseSentencesTest::ruleAtAnyTurn);
        sentence("7: what it was.", PromiseSentencesTest::ruleTellsWhatItWas);
        sentence("7: IllegalArgumentException: another what, n", PromiseSentencesTest::ruleNoneSuch);
        sentence("8: TURNS that are left become n (0 to 8)", PromiseSentencesTest::orderOfSoMany);
        sentence("8: of which the i-th (from 0 on) is of side 1, if bit i is set", PromiseSentencesTest::orderByBits);
        sentence("8: (other bits: 0)", PromiseSentencesTest::orderOtherBits);
        sentence("8: how many there were.", PromiseSentencesTest::orderTellsHowManyThereWere);
        sentence("9: How many ACTS still can be taken back behind it", PromiseSentencesTest::undoTellsHowMany);
        sentence("9: NONE: none could.", PromiseSentencesTest::undoNone);
    }

    private static void asked() {
        sentence("10: 0 JURORS, 1 TALES, 2 EXCUSED, 3 the ROW, 4 SEATS, 5 SPARE, 6 1 with BOX", PromiseSentencesTest::toldOfText);
        sentence("10: 7 TURNS that are left, 8 STRUCK", PromiseSentencesTest::toldOfGame);
        sentence("10: 9 the side whose TURN it is (NONE: none)", PromiseSentencesTest::toldWhoseTurn);
        sentence("10: 10 bytes of the TAPE, 11 ACTS that can be taken back.", PromiseSentencesTest::toldTapeAndActs);
        sentence("10 (so below: a number that is none such)", PromiseSentencesTest::toldNoneSuch);
        sentence("11: Of JURORS and TALES (by number): 0, 1 WORTH to side 0, 1, 2 AGE, 3 KIN", PromiseSentencesTest::jurorAsTold);
        sentence("11: 4 the side that has him EXCUSED (NONE)", PromiseSentencesTest::jurorExcused);
        sentence("11: 5 the side that STRUCK him (NONE)", PromiseSentencesTest::jurorStruck);
        sentence("11: 6 his place in the ROW, from 0 on (NONE: not in it)", PromiseSentencesTest::jurorPlace);
        sentence("11: 7 1 IN THE BOX.", PromiseSentencesTest::jurorInTheBox);
        sentence("11: NoSuchElementException: no such number.", PromiseSentencesTest::jurorNoSuchNumber);
        sentence("11 (so below: a number that is none such)", PromiseSentencesTest::jurorNoneSuch);
        sentence("12: The i-th IN THE BOX (spare false), or spare (true), as it would be sworn now", PromiseSentencesTest::seats);
        sentence("12: NOBODY: there is none.", PromiseSentencesTest::seatOfNobody);
        sentence("12: IllegalArgumentException: i below 0.", PromiseSentencesTest::seatBelow0);
        sentence("13: Side whose the i-th of the TURNS left is (0: the next).", PromiseSentencesTest::turns);
        sentence("13: NoSuchElementException: it has not so many.", PromiseSentencesTest::notSoManyTurns);
        sentence("14: WORTH to a side (0, 1), would all PASS from now on.", PromiseSentencesTest::worths);
    }

    private static void lookedBack() {
        sentence("15: VALUE of the state as it is to a side.", PromiseSentencesTest::values);
        sentence("16: BEST PLAY now: whom it STRIKES; NONE: it PASSES; NOBODY: no TURN is left.", PromiseSentencesTest::best);
        sentence("17: The i-th act of BEST PLAY from here on (0: now): whom; NONE: PASSES", PromiseSentencesTest::line);
        sentence("17: NOBODY: not so many TURNS are left.", PromiseSentencesTest::lineTooLong);
        sentence("17: IllegalArgumentException: i below 0.", PromiseSentencesTest::lineBelow0);
        sentence("18: By how much less VALUE to the side whose TURN it is has the state behind an act than by BEST PLAY.",
                PromiseSentencesTest::costs);
        sentence("18: (a JUROR, NONE: it PASSES)", PromiseSentencesTest::costOfPassing);
        sentence("18: NoSuchElementException: as of strike()", PromiseSentencesTest::costNoSuchOne);
        sentence("18: IllegalStateException: as of strike(), pass().", PromiseSentencesTest::costBadState);
        sentence("19: How many STATES there are.", PromiseSentencesTest::states);
    }

    private static void whatIf() {
        sentence("20: VALUE to a side, had it one TURN more: last (first false), or now (first true).", PromiseSentencesTest::more);
        sentence("20 (so below: a number that is none such)", PromiseSentencesTest::moreNoneSuch);
        sentence("21: VALUE to a side, if the i-th of the TURNS left were the other side's.", PromiseSentencesTest::other);
        sentence("21: NoSuchElementException: as of turn().", PromiseSentencesTest::otherNoSuchTurn);
        sentence("21 (so below: a number that is none such)", PromiseSentencesTest::otherNoneSuch);
        sentence("22: VALUE to a side, were one of the ROW not in it", PromiseSentencesTest::without);
        sentence("22: (who fills is as it was).", PromiseSentencesTest::withoutWhoFills);
        sentence("22: NoSuchElementException, IllegalArgumentException", PromiseSentencesTest::withoutNoneSuch);
        sentence("22: IllegalStateException: he is STRUCK.", PromiseSentencesTest::withoutTheStruck);
        sentence("23: WORTH to a side of the end, if sides whose bits are set (0 to 3) play PLAIN", PromiseSentencesTest::plain);
        sentence("23: others by BEST PLAY (as if both did so).", PromiseSentencesTest::plainAgainstBest);
        sentence("23 (so below: a number that is none such)", PromiseSentencesTest::plainNoneSuch);
        sentence("24: AT ONCE: 0 how many RESTS there are, 1 the set of side 0 of the first one, 2 that of side 1, 3, 4 WORTH of it",
                PromiseSentencesTest::once);
        sentence("24: (1 to 4: NOBODY, if there is none).", PromiseSentencesTest::onceNone);
        sentence("24 (so below: a number that is none such)", PromiseSentencesTest::onceNoneSuch);
        sentence("24: IllegalStateException: a side has more than 3 TURNS left.", PromiseSentencesTest::onceMoreThan3);
    }

    private static void counted() {
        sentence("25: How many IN THE BOX, spare", PromiseSentencesTest::countInSight);
        sentence("25: have KIN of a side (what 0, 1)", PromiseSentencesTest::countKin);
        sentence("25: AGE below n (2).", PromiseSentencesTest::countAge);
        sentence("25: IllegalArgumentException: another what.", PromiseSentencesTest::countNoneSuch);
        sentence("26: From 0 on, of the ROW one by one", PromiseSentencesTest::printFrom0);
        sentence("26: 31 times what there is, and his number, 31 times, and the side that STRUCK him.", PromiseSentencesTest::printSum);
        sentence("27: How many calls were refused: 0 NoSuchElementException, 1 IllegalArgumentException, 2 IllegalStateException",
                PromiseSentencesTest::status);
        sentence("27: NONE for others.", PromiseSentencesTest::statusOfOthers);
    }

    private static void sentence(String words, Runnable test) {
        Bench.sentence(words, test);
    }

    private static void due(String what, long want, Bench.Call call) {
        Bench.due(what, want, call);
    }

    private static void feedBlanks(StrikeBench x, int times) {
        for (int i = 0; i < times; i++) {
            x.feed(0x20202020, 0x20202020, 0x20202020, 0x20202020, 0x20202020);
        }
    }

    private static void newObject() {
        StrikeBench x = new StrikeBench();
        int[] due = {0, 0, 0, 0, 2, 0, 0, 0, 0, NONE, 0, 0};
        for (int i = 0; i < due.length; i++) {
            int what = i;
            due("told(" + i + ")", due[i], () -> x.told(what));
        }
        due("no juror", NO_SUCH, () -> x.juror(0, 0));
        due("nobody to strike", NO_SUCH, () -> x.strike(0));
        due("no turn", BAD_STATE, x::pass);
        due("no state but this", 1, x::states);
        due("nobody in a seat", NOBODY, () -> x.seat(0, false));
        due("nobody to take out", NO_SUCH, () -> x.without(0, 0));
        due("one turn more brings nothing", 0, () -> x.more(0, true));
        due("nobody counts", 0, () -> x.count(2, MOST));
        // Another one is new, too, whatever became of the first.
        x.rule(0, 5);
        due("a second object", 2, () -> new StrikeBench().told(4));
    }

    private static void constants() {
        due("NONE", -1, () -> StrikeBench.NONE);
        due("NOBODY", -100000, () -> StrikeBench.NOBODY);
        due("a seat that is empty", -100000, () -> new StrikeBench().seat(0, true));
    }

    private static void twentyBytes() {
        StrikeBench x = new StrikeBench();
        due("twenty", 20, () -> x.feed(0x6a75726f, 0x72203131, 0x202d3232, 0x20333320, 0x333b2020));
        due("all of them", 1, () -> x.text(20));
        int[] due = {11, -22, 33, 3};
        for (int i = 0; i < 4; i++) {
            int what = i;
            due("juror(0, " + i + ")", due[i], () -> x.juror(0, what));
        }
        // Each number is four bytes, in the order of the call.
        StrikeBench y = new StrikeBench();
        y.feed(0x20202020, 0x20202020, 0x20202020, 0x20202020, 0x2020203f);
        due("the twentieth", -9, () -> y.text(20));
        due("at 19", 19, y::fault);
    }

    private static void highestFirst() {
        for (int number = 0; number < 5; number++) {
            for (int place = 0; place < 4; place++) {
                int[] fed = {0x20202020, 0x20202020, 0x20202020, 0x20202020, 0x20202020};
                int shift = 24 - 8 * place;
                // 0xff, so that the highest one is below 0 as a number.
                fed[number] |= 0xff << shift;
                StrikeBench x = new StrikeBench();
                x.feed(fed[0], fed[1], fed[2], fed[3], fed[4]);
                int at = 4 * number + place;
                due("a fault at " + at, -9, () -> x.text(20));
                due("at " + at, at, x::fault);
            }
        }
    }

    private static void howManyThereAre() {
        StrikeBench x = new StrikeBench();
        for (int i = 1; i <= 25; i++) {
            due("feed " + i, 20 * i, () -> x.feed(LEAST, -1, 0, 1, MOST));
        }
        x.text(0);
        due("from 0 on again", 20, () -> x.feed(0, 0, 0, 0, 0));
    }

    private static void notMoreThan500() {
        StrikeBench x = new StrikeBench();
        x.feed(0x6a75726f, 0x72203120, 0x32203230, 0x20303b20, 0x20202020);
        feedBlanks(x, 23);
        due("500 are not more", 500, () -> x.feed(0x20202020, 0x20202020, 0x20202020, 0x20202020, 0x20202020));
        due("520 are", NONE, () -> x.feed(-1, -1, -1, -1, -1));
        due("and again", NONE, () -> x.feed(0, 0, 0, 0, 0));
        due("doing nothing", 500, () -> x.told(10));
        due("to no byte", 1, () -> x.text(500));
        due("nothing is refused by it", 0, () -> x.status(0) + x.status(1) + x.status(2));
        due("there is room again", 20, () -> x.feed(0, 0, 0, 0, 0));
    }

    private static void firstBytes() {
        StrikeBench x = new StrikeBench();
        Bench.feed(x, Bench.bytes(ONE + "box;" + ONE));
        due("the first 19", 1, () -> x.text(19));
        due("with box", 1, () -> x.told(6));
        Bench.feed(x, Bench.bytes(ONE + "box;" + ONE));
        due("the first 15", 1, () -> x.text(15));
        due("without", 0, () -> x.told(6));
        Bench.feed(x, Bench.bytes(ONE + "box;" + ONE));
        due("the first 14 have no end", -9, () -> x.text(14));
        due("at their length", 14, x::fault);
        Bench.feed(x, Bench.bytes(ONE));
        due("of twenty, none", -5, () -> x.text(0));
        due("at 0", 0, x::fault);
        // What stands behind them on the tape, or stood there before, makes no word, number or sign of theirs longer.
        Bench.feed(x, Bench.bytes("boxes;"));
        due("a word that goes on", -9, () -> x.text(3));
        due("ends with them", 3, x::fault);
        Bench.feed(x, Bench.bytes("seats 22;"));
        due("a number that goes on", -9, () -> x.text(7));
        due("ends with them, too", 7, x::fault);
        Bench.feed(x, Bench.bytes("juror 1 2 20 0      ;"));
        due("a sign behind them", -9, () -> x.text(20));
        due("is not there", 20, x::fault);
    }

    private static void tapeIsEmptyThen() {
        StrikeBench x = new StrikeBench();
        Bench.feed(x, Bench.bytes(ONE + ONE));
        x.text(15);
        due("behind a part of it", 0, () -> x.told(10));
        due("nothing is left to tell", BAD_ARGUMENT, () -> x.text(1));
        Bench.feed(x, Bench.bytes(ONE));
        due("from its first byte on", 1, () -> x.text(15));
        Bench.feed(x, Bench.bytes("?"));
        x.text(1);
        due("behind a fault", 0, () -> x.told(10));
        Bench.feed(x, Bench.bytes(ONE));
        x.text(0);
        due("behind none of it", 0, () -> x.told(10));
    }

    private static void tellAllAnew() {
        StrikeBench x = Bench.of(FILLED + "seats 3;spare 2;box;turns abab;");
        x.strike(1);
        x.strike(2);
        x.rule(1, 3);
        Bench.tell(x, ONE + ONE + "turns ba;");
        int[] due = {2, 0, 0, 2, 2, 0, 0, 2, 0, 1, 0, 5};
        for (int i = 0; i < due.length; i++) {
            int what = i;
            due("told(" + i + ")", due[i], () -> x.told(what));
        }
        due("nobody has him excused", NONE, () -> x.juror(0, 4));
        due("nobody struck him", NONE, () -> x.juror(1, 5));
        due("he is in the row", 0, () -> x.juror(0, 6));
        due("no third", NO_SUCH, () -> x.juror(2, 0));
        due("causes, bench and grant are told anew, too", 10, () -> {
            Bench.tell(x, ONE + "cause a 1=1;cause b 1=1;bench 1=2;grant 1;");
            return Bench.tell(x, ONE.repeat(10));
        });
        due("a cause without the former bench", 0, () -> Bench.tell(x, ONE + ONE + "cause a 1=1;"));
        due("a cause without the other side's", 1, () -> Bench.tell(x, ONE + ONE + "cause b 1=1;grant 1;"));
        Bench.tell(x, ONE + ONE + "turns ba;");
        // The same text anew: no turn of it was taken.
        x.strike(0);
        Bench.tell(x, ONE + ONE + "turns ba;");
        due("both turns", 2, () -> x.told(7));
        due("nobody is struck", 0, () -> x.told(8));
    }

    private static void nothingOfFormerTexts() {
        StrikeBench x = new StrikeBench();
        // So often that whatever the object keeps of former texts has been written more than once.
        for (int i = 0; i < 20; i++) {
            Bench.tell(x, FILLED + "cause a kin=0;bench 1=1;grant 5;seats 3;spare 2;box;turns bbb;");
            x.strike(2);
        }
        Bench.tell(x, ONE);
        int[] due = {1, 0, 0, 1, 2, 0, 0, 0, 0, NONE, 0, 8};
        for (int i = 0; i < due.length; i++) {
            int what = i;
            due("told(" + i + ")", due[i], () -> x.told(what));
        }
        int[] person = {1, 2, 20, 0, NONE, NONE, 0, 1};
        for (int i = 0; i < person.length; i++) {
            int what = i;
            due("juror(0, " + i + ")", person[i], () -> x.juror(0, what));
        }
        Bench.tell(x, ONE + ONE + "turns a;");
        due("whose turn it is", 0, () -> x.told(9));
    }

    private static void howManyInRow() {
        Bench.reads(ONE.repeat(10), 10);
        Bench.reads(ONE, 1);
        Bench.reads(ONE + "cause a 1=1;", 0);
        Bench.reads(FILLED, 3);
        Bench.reads(ONE + "tales 1 1 20 0;", 1);
    }

    private static void faultLess10() {
        Bench.fails("?", 1, 0);
        Bench.fails("seats 7;", 2, 6);
        Bench.fails("tales 1 1 20 0;".repeat(5), 3, 60);
        Bench.fails("bench (((((1=1)))));", 4, 10);
        Bench.fails("box;", 5, 4);
        due("1", -9, () -> Bench.tell(new StrikeBench(), "?"));
        due("5", -5, () -> Bench.tell(new StrikeBench(), "box;"));
    }

    private static void allButTheTapeStays() {
        String[] faulty = {"?", "seats 7;", "juror 9 9 99 3;seats 6;spare 3;box;turns bb;cause a 1=1;grant 4;?", "box;",
            "tales 1 1 20 0;".repeat(5), ONE + "bench (((((1=1)))));"};
        for (String text : faulty) {
            StrikeBench x = Bench.of(FILLED + "seats 1;spare 1;turns abab;");
            x.strike(2);
            long print = x.print();
            due("a fault of {" + text + "}", 1, () -> Bench.tell(x, text) < 0 ? 1 : 0);
            int[] due = {3, 2, 1, 3, 1, 1, 0, 3, 1, 1, 0, 2};
            for (int i = 0; i < due.length; i++) {
                int what = i;
                due("told(" + i + ") behind {" + text + "}", due[i], () -> x.told(what));
            }
            due("the row behind {" + text + "}", print, x::print);
            due("worth behind {" + text + "}", 2 * 3 - 7, () -> x.worth(0));
            due("the acts behind {" + text + "}", 1, x::undo);
        }
        // All eight acts that can be taken back stay, too, and what they would go back to.
        StrikeBench x = Bench.of(FILLED + "seats 1;spare 1;box;turns abab;");
        for (int i = 0; i < 8; i++) {
            x.rule(0, 6);
        }
        for (String text : faulty) {
            Bench.tell(x, text);
        }
        for (int left = 7; left >= 0; left--) {
            due("taken back", left, x::undo);
        }
        int[] due = {3, 2, 1, 3, 1, 1, 1, 4, 0, 0, 0, 0};
        for (int i = 0; i < due.length; i++) {
            int what = i;
            due("told(" + i + ") behind eight taken back", due[i], () -> x.told(what));
        }
    }

    private static void notTheTapesBytes() {
        StrikeBench x = new StrikeBench();
        due("1 of none", BAD_ARGUMENT, () -> x.text(1));
        due("0 of none", -5, () -> x.text(0));
        Bench.feed(x, Bench.bytes(ONE));
        for (int n : new int[] {-1, LEAST, 21, MOST, 500}) {
            due("text(" + n + ") of twenty", BAD_ARGUMENT, () -> x.text(n));
        }
        // 20 is allowed, and its last bytes are 0.
        due("20 of twenty", -9, () -> x.text(20));
        StrikeBench full = new StrikeBench();
        feedBlanks(full, 25);
        due("501 of 500", BAD_ARGUMENT, () -> full.text(501));
        due("500 of 500", -5, () -> full.text(500));
    }

    private static void tapeStays() {
        StrikeBench x = new StrikeBench();
        Bench.feed(x, Bench.bytes(ONE));
        Bench.answer(() -> x.text(21));
        Bench.answer(() -> x.text(-1));
        due("twenty bytes", 20, () -> x.told(10));
        due("more come behind them", 40, () -> x.feed(0, 0, 0, 0, 0));
        due("the same ones", 1, () -> x.text(15));
    }

    private static void placeOfFault() {
        StrikeBench x = new StrikeBench();
        Bench.tell(x, "?");
        due("at 0", 0, x::fault);
        Bench.tell(x, "box;box;");
        due("the latest one's", 4, x::fault);
        due("one that throws", BAD_ARGUMENT, () -> x.text(1));
        due("does not count", 4, x::fault);
        Bench.tell(x, " ".repeat(500));
        due("the greatest place", 500, x::fault);
        x.rule(0, 3);
        x.feed(0, 0, 0, 0, 0);
        due("other calls leave it", 500, x::fault);
    }

    private static void withoutFault() {
        StrikeBench x = new StrikeBench();
        Bench.tell(x, "box;box;");
        Bench.tell(x, ONE);
        due("the latest text() had none", NONE, x::fault);
        Bench.answer(() -> x.text(1));
        due("though one threw since", NONE, x::fault);
    }

    private static void aheadOfAnyText() {
        StrikeBench x = new StrikeBench();
        due("a new object", NONE, x::fault);
        x.feed(-1, -1, -1, -1, -1);
        due("with a tape", NONE, x::fault);
        Bench.answer(() -> x.text(-1));
        Bench.answer(() -> x.text(-7));
        due("behind a text() that threw", NONE, x::fault);
        Bench.answer(() -> x.text(21));
        due("behind another that threw", NONE, x::fault);
    }

    private static void strikes() {
        StrikeBench x = Bench.of(ONE.repeat(10) + "turns abbbbbbb;");
        for (int i = 0; i < 8; i++) {
            int juror = i;
            due("left behind strike " + i, 7 - i, () -> x.strike(juror));
            due("by whom " + i, i == 0 ? 0 : 1, () -> x.juror(juror, 5));
        }
        due("eight are struck", 8, () -> x.told(8));
        StrikeBench open = Bench.of(ONE.repeat(10) + "seats 1;turns b;");
        due("the last of ten, open", 0, () -> open.strike(9));
        due("by side 1", 1, () -> open.juror(9, 5));
    }

    private static void noSuchOneInRow() {
        StrikeBench x = Bench.of(FILLED + "turns a;");
        for (int juror : new int[] {-1, 0, 4, 5, 14, NOBODY, LEAST, MOST}) {
            due("strike(" + juror + ")", NO_SUCH, () -> x.strike(juror));
            due("without(0, " + juror + ")", NO_SUCH, () -> x.without(0, juror));
            if (juror != NONE) {
                due("cost(" + juror + ")", NO_SUCH, () -> x.cost(juror));
            }
        }
        due("who fills is in it", 0, () -> x.strike(3));
        due("nobody is in it", NO_SUCH, () -> Bench.of(ONE + "cause a 1=1;turns a;").strike(0));
        due("ahead of any text", NO_SUCH, () -> new StrikeBench().strike(0));
    }

    private static void strikeWithoutTurn() {
        due("no turn was told", BAD_STATE, () -> Bench.of(ONE).strike(0));
        StrikeBench x = Bench.of(ONE + ONE + "turns a;");
        x.strike(0);
        due("the last one was taken", BAD_STATE, () -> x.strike(1));
        x.order(1, 1);
        due("there is one more", 0, () -> x.strike(1));
    }

    private static void strikeTheStruck() {
        StrikeBench x = Bench.of(ONE + ONE + "turns aba;");
        x.strike(0);
        due("by the other side", BAD_STATE, () -> x.strike(0));
        x.pass();
        due("by the same side", BAD_STATE, () -> x.strike(0));
        due("one turn is left still", 1, () -> x.told(7));
        x.undo();
        x.undo();
        due("taken back, he is not", 2, () -> x.strike(0));
    }

    private static void strikeBehindTheBox() {
        StrikeBench x = Bench.of(ONE.repeat(4) + "seats 2;spare 1;box;turns aaaa;");
        due("the spare one", BAD_STATE, () -> x.strike(2));
        due("the last one", BAD_STATE, () -> x.strike(3));
        due("the last in it", 3, () -> x.strike(1));
        due("who moved up", 2, () -> x.strike(2));
        x.rule(2, 0);
        x.rule(0, 1);
        due("open: behind it", 1, () -> x.strike(3));
        x.rule(2, 1);
        due("the only one is in it", 0, () -> x.strike(0));
    }

    private static void passes() {
        StrikeBench x = Bench.of(ONE + "turns abababab;");
        for (int left = 7; left >= 0; left--) {
            due("left", left, x::pass);
        }
        due("nobody is struck", 0, () -> x.told(8));
        StrikeBench empty = new StrikeBench();
        empty.order(1, 1);
        due("with no row at all", 0, empty::pass);
    }

    private static void passWithoutTurn() {
        due("no turn was told", BAD_STATE, () -> Bench.of(ONE).pass());
        due("ahead of any text", BAD_STATE, () -> new StrikeBench().pass());
        StrikeBench x = Bench.of(ONE + "turns a;");
        due("the last one", 0, x::pass);
        due("is taken", BAD_STATE, x::pass);
        x.order(2, 0);
        x.order(0, 0);
        due("none by order", BAD_STATE, x::pass);
    }

    private static void ruleWithin(int what, int least, int most, int told) {
        StrikeBench x = Bench.of(ONE);
        for (int n = least; n <= most; n++) {
            int to = n;
            x.rule(what, n);
            due("it is " + n, to, () -> x.told(told));
        }
        for (int n : new int[] {least - 1, most + 1, LEAST, MOST, -most}) {
            if (n < least || n > most) {
                due("rule(" + what + ", " + n + ")", BAD_ARGUMENT, () -> x.rule(what, n));
            }
        }
        due("it stays", most, () -> x.told(told));
        for (int other = 4; other <= 6; other++) {
            int of = other;
            if (of != told) {
                due("told(" + of + ") is as it was", of == 4 ? 2 : 0, () -> x.told(of));
            }
        }
    }

    private static void ruleAtAnyTurn() {
        StrikeBench x = Bench.of(ONE.repeat(3) + "turns ab;");
        x.strike(0);
        due("between turns", 2, () -> x.rule(0, 1));
        x.pass();
        due("behind the last one", 1, () -> x.rule(0, 2));
        due("spare", 0, () -> x.rule(1, 1));
        due("box", 0, () -> x.rule(2, 1));
        due("he is struck still", 0, () -> x.juror(0, 5));
        due("those who sit by it", 2, () -> x.seat(1, false));
        due("ahead of any text", 2, () -> new StrikeBench().rule(0, 6));
    }

    private static void ruleTellsWhatItWas() {
        StrikeBench x = Bench.of(ONE);
        due("seats without", 2, () -> x.rule(0, 6));
        due("seats", 6, () -> x.rule(0, 1));
        due("as it was", 1, () -> x.rule(0, 1));
        due("spare without", 0, () -> x.rule(1, 3));
        due("spare", 3, () -> x.rule(1, 0));
        due("open without", 0, () -> x.rule(2, 1));
        due("box", 1, () -> x.rule(2, 0));
        due("told seats", 5, () -> Bench.of(ONE + "seats 5;").rule(0, 1));
        due("told spare", 2, () -> Bench.of(ONE + "spare 2;").rule(1, 1));
        due("told box", 1, () -> Bench.of(ONE + "box;").rule(2, 1));
    }

    private static void ruleNoneSuch() {
        StrikeBench x = Bench.of(ONE);
        for (int what : new int[] {-1, 3, LEAST, MOST}) {
            for (int n = 0; n <= 1; n++) {
                int to = n;
                due("rule(" + what + ", " + n + ")", BAD_ARGUMENT, () -> x.rule(what, to));
            }
        }
        int[][] wrong = {{0, 0}, {0, 7}, {1, -1}, {1, 4}, {2, -1}, {2, 2}};
        for (int[] w : wrong) {
            due("rule(" + w[0] + ", " + w[1] + ")", BAD_ARGUMENT, () -> x.rule(w[0], w[1]));
        }
        due("all are counted", 14, () -> x.status(1));
    }

    private static void orderOfSoMany() {
        StrikeBench x = Bench.of(ONE + "turns ab;");
        for (int n = 0; n <= 8; n++) {
            int many = n;
            x.order(n, 0);
            due("so many", many, () -> x.told(7));
        }
        for (int n : new int[] {-1, 9, 31, 32, 33, 64, LEAST, MOST}) {
            due("order(" + n + ", 0)", BAD_ARGUMENT, () -> x.order(n, 0));
        }
        due("eight stay", 8, () -> x.told(7));
        x.order(0, 0);
        due("none", NONE, () -> x.told(9));
        // Only those that are left: who is struck stays so.
        StrikeBench y = Bench.of(ONE + ONE + "turns ab;");
        y.strike(1);
        y.order(8, 0);
        due("all eight are left", 8, () -> y.told(7));
        due("he is struck still", 0, () -> y.juror(1, 5));
    }

    private static void orderByBits() {
        StrikeBench x = Bench.of(ONE);
        for (int bits : new int[] {0, 1, 0b10000000, 0b10110010, 0b11111111}) {
            x.order(8, bits);
            for (int i = 0; i < 8; i++) {
                int at = i;
                due("turn(" + i + ") of " + bits, bits >> i & 1, () -> x.turn(at));
            }
        }
        x.order(1, 1);
        due("one of side 1", 1, () -> x.told(9));
    }

    private static void orderOtherBits() {
        StrikeBench x = Bench.of(ONE + "turns ab;");
        for (int n = 0; n <= 8; n++) {
            int many = n;
            due("the bit behind " + n, BAD_ARGUMENT, () -> x.order(many, 1 << many));
            due("the sign with " + n, BAD_ARGUMENT, () -> x.order(many, LEAST));
            due("all bits with " + n, BAD_ARGUMENT, () -> x.order(many, -1));
        }
        due("nothing was changed", 2, () -> x.told(7));
        due("all that may be", 2, () -> x.order(8, 255));
        due("none of none", 8, () -> x.order(0, 0));
    }

    private static void orderTellsHowManyThereWere() {
        StrikeBench x = Bench.of(ONE + "turns abababab;");
        x.pass();
        due("that were left", 7, () -> x.order(3, 0));
        due("three", 3, () -> x.order(0, 0));
        due("none", 0, () -> x.order(8, 0));
        due("eight", 8, () -> x.order(8, 0));
        due("ahead of any text", 0, () -> new StrikeBench().order(1, 0));
    }

    private static void undoTellsHowMany() {
        StrikeBench x = Bench.of(ONE);
        for (int i = 0; i < 7; i++) {
            x.rule(0, 3);
        }
        for (int left = 7; left >= 0; left--) {
            due("behind it", left, x::undo);
            due("as told", left, () -> x.told(11));
        }
    }

    private static void undoNone() {
        due("ahead of any act", NONE, () -> new StrikeBench().undo());
        StrikeBench x = new StrikeBench();
        x.rule(0, 3);
        due("one", 0, x::undo);
        due("none is left", NONE, x::undo);
        due("nothing is changed by it", 2, () -> x.told(4));
        due("it is no refusal", 0, () -> x.status(0) + x.status(1) + x.status(2));
        StrikeBench y = Bench.of(ONE);
        for (int i = 0; i < 8; i++) {
            y.rule(0, 3);
        }
        for (int i = 0; i < 8; i++) {
            y.undo();
        }
        due("the ninth, the text, can't be", NONE, y::undo);
        due("it stays", 1, () -> y.told(0));
    }

    private static void toldOfText() {
        StrikeBench x = Bench.of(FILLED + "seats 4;spare 3;box;");
        int[] due = {3, 2, 1, 3, 4, 3, 1};
        for (int i = 0; i < due.length; i++) {
            int what = i;
            due("told(" + i + ")", due[i], () -> x.told(what));
        }
        StrikeBench most = Bench.of(ONE.repeat(10) + "tales 1 1 20 0;".repeat(4) + "cause a 1=1;cause b 1=1;seats 6;");
        int[] dueMost = {10, 4, 10, 4, 6, 0, 0};
        for (int i = 0; i < dueMost.length; i++) {
            int what = i;
            due("at most, told(" + i + ")", dueMost[i], () -> most.told(what));
        }
    }

    private static void toldOfGame() {
        StrikeBench x = Bench.of(ONE.repeat(3) + "turns ab;");
        due("left", 2, () -> x.told(7));
        due("nobody", 0, () -> x.told(8));
        x.strike(1);
        due("one left", 1, () -> x.told(7));
        due("one struck", 1, () -> x.told(8));
        x.strike(2);
        due("none left", 0, () -> x.told(7));
        due("two struck", 2, () -> x.told(8));
        due("the row has them still", 3, () -> x.told(3));
        x.undo();
        due("taken back", 1, () -> x.told(8));
    }

    private static void toldWhoseTurn() {
        StrikeBench x = Bench.of(ONE + "turns ba;");
        due("side 1's", 1, () -> x.told(9));
        x.pass();
        due("side 0's", 0, () -> x.told(9));
        x.pass();
        due("none", NONE, () -> x.told(9));
        due("none told", NONE, () -> Bench.of(ONE).told(9));
    }

    private static void toldTapeAndActs() {
        StrikeBench x = Bench.of(ONE);
        due("empty", 0, () -> x.told(10));
        due("one act", 1, () -> x.told(11));
        feedBlanks(x, 25);
        due("full", 500, () -> x.told(10));
        feedBlanks(x, 1);
        due("no more", 500, () -> x.told(10));
        for (int i = 0; i < 9; i++) {
            x.rule(2, 1);
        }
        due("eight acts at most", 8, () -> x.told(11));
    }

    private static void toldNoneSuch() {
        StrikeBench x = Bench.of(ONE);
        for (int what : new int[] {-1, 12, LEAST, MOST}) {
            due("told(" + what + ")", BAD_ARGUMENT, () -> x.told(what));
        }
    }

    private static void jurorAsTold() {
        StrikeBench x = Bench.of(FILLED);
        int[][] due = {{1, -2, 20, 1}, {3, 4, 21, 0}, {5, 6, 22, 2}, {-7, 8, 30, 3}, {9, 9, 31, 0}};
        for (int j = 0; j < due.length; j++) {
            for (int i = 0; i < 4; i++) {
                int number = j;
                int what = i;
                due("juror(" + j + ", " + i + ")", due[j][i], () -> x.juror(number, what));
            }
        }
        // Acts leave it.
        x.rule(0, 1);
        x.order(1, 0);
        x.strike(1);
        for (int j = 0; j < due.length; j++) {
            for (int i = 0; i < 4; i++) {
                int number = j;
                int what = i;
                due("behind acts, juror(" + j + ", " + i + ")", due[j][i], () -> x.juror(number, what));
            }
        }
    }

    private static void jurorExcused() {
        StrikeBench x = Bench.of("juror 1 1 20 1;juror 1 1 20 2;juror 1 1 20 0;tales 1 1 20 1;cause a kin=1;cause b kin=2;");
        int[] due = {0, 1, NONE, NONE};
        for (int i = 0; i < 4; i++) {
            int number = i;
            due("juror(" + i + ", 4)", due[i], () -> x.juror(number, 4));
        }
        x.rule(0, 1);
        for (int i = 0; i < 4; i++) {
            int number = i;
            due("behind an act, juror(" + i + ", 4)", due[i], () -> x.juror(number, 4));
        }
    }

    private static void jurorStruck() {
        StrikeBench x = Bench.of(FILLED + "turns abab;");
        x.strike(3);
        x.strike(1);
        int[] due = {NONE, 1, NONE, 0, NONE};
        for (int i = 0; i < 5; i++) {
            int number = i;
            due("juror(" + i + ", 5)", due[i], () -> x.juror(number, 5));
        }
        x.undo();
        due("taken back", NONE, () -> x.juror(1, 5));
    }

    private static void jurorPlace() {
        StrikeBench x = Bench.of(FILLED + "turns ab;");
        int[] due = {NONE, 0, 1, 2, NONE};
        for (int i = 0; i < 5; i++) {
            int number = i;
            due("juror(" + i + ", 6)", due[i], () -> x.juror(number, 6));
        }
        x.strike(1);
        due("who is struck has his place", 0, () -> x.juror(1, 6));
        due("and the next one his", 1, () -> x.juror(2, 6));
        due("the tenth", 9, () -> Bench.of(ONE.repeat(10)).juror(9, 6));
    }

    private static void jurorInTheBox() {
        StrikeBench x = Bench.of(FILLED + "seats 2;spare 1;turns ab;");
        int[] due = {0, 1, 1, 0, 0};
        for (int i = 0; i < 5; i++) {
            int number = i;
            due("juror(" + i + ", 7)", due[i], () -> x.juror(number, 7));
        }
        x.strike(2);
        due("who is struck is not", 0, () -> x.juror(2, 7));
        due("who moved up is", 1, () -> x.juror(3, 7));
    }

    private static void jurorNoSuchNumber() {
        StrikeBench x = Bench.of(FILLED);
        for (int number : new int[] {-1, 5, 10, 13, 14, NOBODY, LEAST, MOST}) {
            due("juror(" + number + ", 0)", NO_SUCH, () -> x.juror(number, 0));
        }
        due("ahead of any text", NO_SUCH, () -> new StrikeBench().juror(0, 0));
        StrikeBench most = Bench.of(ONE.repeat(10) + "tales 1 1 20 0;".repeat(4));
        due("the last", 20, () -> most.juror(13, 2));
        due("behind the last", NO_SUCH, () -> most.juror(14, 2));
    }

    private static void jurorNoneSuch() {
        StrikeBench x = Bench.of(ONE);
        for (int what : new int[] {-1, 8, LEAST, MOST}) {
            due("juror(0, " + what + ")", BAD_ARGUMENT, () -> x.juror(0, what));
        }
    }

    private static void seats() {
        StrikeBench x = Bench.of(ONE.repeat(10) + "seats 6;spare 3;turns ab;");
        for (int i = 0; i < 6; i++) {
            int at = i;
            due("seat " + i, i, () -> x.seat(at, false));
        }
        for (int i = 0; i < 3; i++) {
            int at = i;
            due("spare " + i, 6 + i, () -> x.seat(at, true));
        }
        x.strike(2);
        due("one moved up", 3, () -> x.seat(2, false));
        due("the first spare one, too", 7, () -> x.seat(0, true));
        due("and the tenth", 9, () -> x.seat(2, true));
        StrikeBench fills = Bench.of(FILLED + "seats 3;");
        due("who fills", 3, () -> fills.seat(2, false));
    }

    private static void seatOfNobody() {
        StrikeBench x = Bench.of(ONE.repeat(3) + "seats 2;spare 2;turns a;");
        due("a third seat", NOBODY, () -> x.seat(2, false));
        due("far off", NOBODY, () -> x.seat(MOST, false));
        due("the only spare one", 2, () -> x.seat(0, true));
        due("no second", NOBODY, () -> x.seat(1, true));
        due("far off, spare", NOBODY, () -> x.seat(MOST, true));
        x.strike(0);
        due("none is spare", NOBODY, () -> x.seat(0, true));
        x.rule(0, 6);
        due("a box that is not full", NOBODY, () -> x.seat(2, false));
        due("none is told to be spare", NOBODY, () -> Bench.of(ONE.repeat(3)).seat(0, true));
        due("nobody at all", NOBODY, () -> new StrikeBench().seat(0, false));
    }

    private static void seatBelow0() {
        StrikeBench x = Bench.of(ONE);
        for (int i : BELOW) {
            due("seat(" + i + ", false)", BAD_ARGUMENT, () -> x.seat(i, false));
            due("seat(" + i + ", true)", BAD_ARGUMENT, () -> x.seat(i, true));
        }
        due("0 is not", 0, () -> x.seat(0, false));
    }

    private static void turns() {
        StrikeBench x = Bench.of(ONE + "turns abbaabab;");
        int[] sides = {0, 1, 1, 0, 0, 1, 0, 1};
        for (int i = 0; i < 8; i++) {
            int at = i;
            due("turn(" + i + ")", sides[i], () -> x.turn(at));
        }
        x.pass();
        for (int i = 0; i < 7; i++) {
            int at = i;
            due("behind a pass, turn(" + i + ")", sides[i + 1], () -> x.turn(at));
        }
    }

    private static void notSoManyTurns() {
        StrikeBench x = Bench.of(ONE + "turns bb;");
        for (int i : new int[] {-1, 2, 8, 32, 33, LEAST, MOST}) {
            due("turn(" + i + ")", NO_SUCH, () -> x.turn(i));
        }
        x.pass();
        due("one less", NO_SUCH, () -> x.turn(1));
        x.pass();
        due("none", NO_SUCH, () -> x.turn(0));
        due("none told", NO_SUCH, () -> Bench.of(ONE).turn(0));
    }

    private static void worths() {
        StrikeBench x = Bench.of(TWO + "spare 1;turns ab;");
        due("to side 0", 2 * 1 + 9, () -> x.worth(0));
        due("to side 1", 2 * 5 + 2, () -> x.worth(1));
        x.strike(0);
        due("behind a strike", 2 * 9, () -> x.worth(0));
        x.strike(1);
        due("of nobody", 0, () -> x.worth(0));
        for (int side : new int[] {-1, 2, LEAST, MOST}) {
            due("worth(" + side + ")", BAD_ARGUMENT, () -> x.worth(side));
        }
        due("ahead of any text", 0, () -> new StrikeBench().worth(1));
    }

    private static void values() {
        StrikeBench x = Bench.of(TWO + "turns ab;");
        due("to side 0", 18, () -> x.value(0));
        due("to side 1", 4, () -> x.value(1));
        x.pass();
        due("as it is then", 2, () -> x.value(0));
        due("to side 1 then", 10, () -> x.value(1));
        x.rule(0, 2);
        due("by another rule", 2 * (5 + 2), () -> x.value(1));
        x.undo();
        x.strike(0);
        due("of an end", 18, () -> x.value(0));
        for (int side : new int[] {-1, 2, LEAST, MOST}) {
            due("value(" + side + ")", BAD_ARGUMENT, () -> x.value(side));
        }
    }

    private static void best() {
        StrikeBench x = Bench.of(TWO + "turns ab;");
        due("strikes", 0, x::best);
        x.strike(0);
        due("passes", NONE, x::best);
        x.pass();
        due("no turn is left", NOBODY, x::best);
        due("none was told", NOBODY, () -> Bench.of(ONE).best());
        due("ahead of any text", NOBODY, () -> new StrikeBench().best());
        due("nobody to strike", NONE, () -> Bench.of(ONE + "cause a 1=1;turns a;").best());
        due("he who fills", 2, () -> Bench.of("juror 1 1 20 1;juror 4 4 20 0;tales -5 0 20 0;cause b kin=1;turns a;").best());
    }

    private static void line() {
        StrikeBench x = Bench.of(TWO + "turns ab;");
        due("now", 0, () -> x.line(0));
        due("then", NONE, () -> x.line(1));
        x.pass();
        due("from here on", NONE, () -> x.line(0));
        StrikeBench eight = Bench.of("juror -1 0 20 0;".repeat(9) + "juror 50 0 20 0;seats 2;turns aaaaaaaa;");
        for (int i = 0; i < 8; i++) {
            int at = i;
            due("line(" + i + ")", i, () -> eight.line(at));
        }
    }

    private static void lineTooLong() {
        StrikeBench x = Bench.of(TWO + "turns ab;");
        for (int i : new int[] {2, 3, 8, 9, MOST}) {
            due("line(" + i + ")", NOBODY, () -> x.line(i));
        }
        x.pass();
        due("one less", NOBODY, () -> x.line(1));
        x.pass();
        due("none", NOBODY, () -> x.line(0));
    }

    private static void lineBelow0() {
        StrikeBench x = Bench.of(TWO + "turns ab;");
        for (int i : BELOW) {
            due("line(" + i + ")", BAD_ARGUMENT, () -> x.line(i));
        }
        due("though no turn be left", BAD_ARGUMENT, () -> Bench.of(ONE).line(-1));
    }

    private static void costs() {
        StrikeBench x = Bench.of(TWO + "turns ab;");
        due("of the best", 0, () -> x.cost(0));
        // With 1 struck side 1 leaves 0 where he is.
        due("of another", 18 - 2, () -> x.cost(1));
        StrikeBench y = Bench.of(TWO + "turns b;");
        due("to side 1, of striking 0", 10 - 4, () -> y.cost(0));
        due("to side 1, of striking 1", 0, () -> y.cost(1));
        StrikeBench fills = Bench.of(FILLED + "seats 1;turns a;");
        // Striking 1 seats 2, worth 10; striking 2 or 3 leaves 1, worth 6.
        due("the best", 0, () -> fills.cost(1));
        due("he who fills", 10 - 6, () -> fills.cost(3));
    }

    private static void costOfPassing() {
        due("to side 0", 18 - 2, () -> Bench.of(TWO + "turns a;").cost(NONE));
        due("to side 1", 0, () -> Bench.of(TWO + "turns b;").cost(NONE));
        due("with a turn behind it", 18 - 2, () -> Bench.of(TWO + "turns ab;").cost(NONE));
        due("with a turn of its own behind it", 0, () -> Bench.of(TWO + "turns aa;").cost(NONE));
        due("with nobody in the row", 0, () -> Bench.of(ONE + "cause a 1=1;turns a;").cost(NONE));
        due("with ten in it", 2, () -> Bench.of("juror -1 0 20 0;" + "juror 0 0 20 0;".repeat(9) + "turns a;").cost(NONE));
    }

    private static void costNoSuchOne() {
        StrikeBench x = Bench.of(FILLED + "turns a;");
        for (int juror : new int[] {-2, 0, 4, 5, NOBODY, LEAST, MOST}) {
            due("cost(" + juror + ")", NO_SUCH, () -> x.cost(juror));
        }
        x.pass();
        due("though no turn be left", NO_SUCH, () -> x.cost(0));
    }

    private static void costBadState() {
        StrikeBench x = Bench.of(ONE.repeat(3) + "seats 1;box;turns aa;");
        due("not in the box", BAD_STATE, () -> x.cost(1));
        x.strike(0);
        due("struck", BAD_STATE, () -> x.cost(0));
        due("who moved up", 0, () -> x.cost(1));
        x.pass();
        due("no turn is left", BAD_STATE, () -> x.cost(1));
        due("nor for passing", BAD_STATE, () -> x.cost(NONE));
        due("none was told", BAD_STATE, () -> Bench.of(ONE).cost(0));
        due("nor to pass", BAD_STATE, () -> new StrikeBench().cost(NONE));
    }

    private static void states() {
        due("of no turn", 1, () -> Bench.of(ONE).states());
        due("of one turn", 1 + 2, () -> Bench.of(ONE + "turns a;").states());
        due("of the most", 1 + 11 + 56 + 176 + 386 + 638 + 848 + 968 + 1013,
                () -> Bench.of(ONE.repeat(10) + "turns abababab;").states());
        // With box: of three by one seat, now 0 can go, then 1, then 2.
        due("with box", 1 + 2 + 3 + 4 + 4, () -> Bench.of(ONE.repeat(3) + "seats 1;box;turns abab;").states());
    }

    private static void more() {
        String text = "juror 1 0 20 0;juror 0 1 20 0;seats 1;turns b;";
        StrikeBench x = Bench.of(text);
        due("as it is", 0, () -> x.value(0));
        due("last", 0, () -> x.more(0, false));
        due("now", 2, () -> x.more(0, true));
        due("its turns are as they were", 1, () -> x.told(7));
        due("and so is the next one", 1, () -> x.told(9));
        // Of none: it is the only turn, first and last.
        due("of none, side 0", 18, () -> Bench.of(TWO).more(0, true));
        due("of none, side 0, last", 18, () -> Bench.of(TWO).more(0, false));
        StrikeBench y = Bench.of("juror 5 1 20 0;juror 2 9 20 0;seats 1;");
        due("of none, side 1", 18, () -> y.more(1, true));
        due("of none, side 1, last", 18, () -> y.more(1, false));
        // A ninth turn: only then all nine are gone.
        String nine = "juror 1 1 20 0;".repeat(9) + "juror 50 50 20 0;seats 1;";
        StrikeBench ofFirst = Bench.of(nine + "turns aaaaaaaa;");
        due("eight", 2, () -> ofFirst.value(0));
        due("a ninth now", 100, () -> ofFirst.more(0, true));
        due("a ninth last", 100, () -> ofFirst.more(0, false));
        due("eight are as they were", 8, () -> ofFirst.told(7));
        due("and worth what they were", 2, () -> ofFirst.value(0));
        StrikeBench ofSecond = Bench.of(nine + "turns bbbbbbbb;");
        due("a ninth of side 1 now", 100, () -> ofSecond.more(1, true));
        due("a ninth of side 1 last", 100, () -> ofSecond.more(1, false));
        // Last and first are not the same for side 1 either.
        StrikeBench z = Bench.of("juror 1 0 20 0;juror 0 1 20 0;seats 1;turns a;");
        due("side 1, last, when side 0 has struck 1", 0, () -> z.more(1, false));
        due("side 1, ahead of it, striking 0", 2, () -> z.more(1, true));
        moreAmongOthers();
    }

    /** By order() the same turns can be made by hand: where the one more stands among them is told by their values. */
    private static void moreAmongOthers() {
        String text = "juror 8 -3 20 0;juror -5 9 20 0;juror 4 4 20 0;juror 6 -6 20 0;juror -7 5 20 0;juror 2 8 20 0;seats 2;spare 1;";
        for (int bits = 0; bits < 16; bits++) {
            StrikeBench x = Bench.of(text);
            x.order(4, bits);
            for (int side = 0; side < 2; side++) {
                int of = side;
                StrikeBench now = Bench.of(text);
                now.order(5, bits << 1 | side);
                due("more(" + side + ", true) of " + bits, now.value(side), () -> x.more(of, true));
                StrikeBench last = Bench.of(text);
                last.order(5, bits | side << 4);
                due("more(" + side + ", false) of " + bits, last.value(side), () -> x.more(of, false));
            }
        }
    }

    private static void moreNoneSuch() {
        StrikeBench x = Bench.of(TWO + "turns ab;");
        for (int side : new int[] {-1, 2, LEAST, MOST}) {
            due("more(" + side + ", true)", BAD_ARGUMENT, () -> x.more(side, true));
            due("more(" + side + ", false)", BAD_ARGUMENT, () -> x.more(side, false));
        }
    }

    private static void other() {
        StrikeBench x = Bench.of(TWO + "turns ab;");
        due("bb, to side 0", 2, () -> x.other(0, 0));
        due("bb, to side 1", 10, () -> x.other(1, 0));
        due("aa, to side 0", 18, () -> x.other(0, 1));
        due("aa, to side 1", 4, () -> x.other(1, 1));
        StrikeBench y = Bench.of(TWO + "turns ba;");
        due("ba", 2, () -> y.value(0));
        due("aa", 18, () -> y.other(0, 0));
        due("bb", 2, () -> y.other(0, 1));
        due("turns are as they were", 1, () -> y.turn(0));
        y.pass();
        due("of those that are left", 2, () -> y.other(0, 0));
        // The eighth, which alone is side 1's: it is as if all were side 0's.
        StrikeBench eight = Bench.of("juror 1 1 20 0;".repeat(8) + "juror 50 0 20 0;seats 1;turns aaaaaaab;");
        due("side 1 does not strike the eighth", 2, () -> eight.value(0));
        due("side 0 does", 100, () -> eight.other(0, 7));
    }

    private static void otherNoSuchTurn() {
        StrikeBench x = Bench.of(TWO + "turns ab;");
        for (int i : new int[] {-1, 2, 8, 32, LEAST, MOST}) {
            due("other(0, " + i + ")", NO_SUCH, () -> x.other(0, i));
        }
        due("none is left", NO_SUCH, () -> Bench.of(TWO).other(0, 0));
        due("ahead of a wrong side", NO_SUCH, () -> x.other(2, 2));
    }

    private static void otherNoneSuch() {
        StrikeBench x = Bench.of(TWO + "turns ab;");
        for (int side : new int[] {-1, 2, LEAST, MOST}) {
            due("other(" + side + ", 0)", BAD_ARGUMENT, () -> x.other(side, 0));
        }
    }

    private static void without() {
        StrikeBench x = Bench.of(TWO + "turns b;");
        due("without 0, to side 0", 18, () -> x.without(0, 0));
        due("without 0, to side 1", 4, () -> x.without(1, 0));
        due("without 1, to side 0", 2, () -> x.without(0, 1));
        due("the row is as it was", 2, () -> x.told(3));
        due("of one, nobody", 0, () -> Bench.of(ONE + "turns a;").without(0, 0));
        // Those who are struck stay so.
        StrikeBench y = Bench.of("juror 7 7 20 0;juror 1 5 20 0;juror 9 2 20 0;seats 1;turns aa;");
        y.strike(0);
        due("behind a strike", 18, () -> y.without(0, 1));
        // With one less he moves into the box, who could not be struck there before.
        StrikeBench box = Bench.of("juror 1 0 20 0;juror 0 0 20 0;juror 9 0 20 0;seats 1;box;turns a;");
        due("with box", 2, () -> box.value(0));
        due("with box, one less", 18, () -> box.without(0, 0));
        due("of ten, one of nine", 2 * 6 + 2, () -> Bench.of("juror 1 2 20 0;".repeat(9) + "juror 0 0 20 0;seats 6;spare 3;")
                .without(0, 0));
    }

    private static void withoutWhoFills() {
        StrikeBench x = Bench.of("juror 1 1 20 1;juror 3 3 20 0;tales 5 5 30 0;tales 7 7 30 0;seats 2;cause b kin=1;");
        due("he who fills alone", 10, () -> x.without(0, 1));
        due("without him who fills", 6, () -> x.without(0, 2));
        // Not as if he had been excused: nobody fills for him.
        StrikeBench y = Bench.of("juror 1 1 20 0;juror 3 3 20 0;tales 5 5 30 0;seats 2;");
        due("nobody fills", 2, () -> y.without(0, 1));
    }

    private static void withoutNoneSuch() {
        StrikeBench x = Bench.of(FILLED);
        for (int juror : new int[] {-1, 0, 4, 5, NOBODY, LEAST, MOST}) {
            due("without(0, " + juror + ")", NO_SUCH, () -> x.without(0, juror));
        }
        for (int side : new int[] {-1, 2, LEAST, MOST}) {
            due("without(" + side + ", 1)", BAD_ARGUMENT, () -> x.without(side, 1));
        }
        due("the juror first", NO_SUCH, () -> x.without(2, 0));
    }

    private static void withoutTheStruck() {
        StrikeBench x = Bench.of(TWO + "turns ab;");
        x.strike(1);
        due("by side 0", BAD_STATE, () -> x.without(0, 1));
        x.strike(0);
        due("by side 1", BAD_STATE, () -> x.without(1, 0));
        due("the side first", BAD_ARGUMENT, () -> x.without(2, 0));
        x.undo();
        due("taken back", 0, () -> x.without(1, 0));
    }

    /** Side 0 does best to strike 0, as side 1 would strike 1 whatever side 0 does; by plain play it would not. */
    private static final String AS_IF = "juror 0 5 20 0;juror 10 -9 20 0;juror 1 4 20 0;seats 1;spare 1;turns ab;";

    private static void plain() {
        StrikeBench x = Bench.of(TWO + "turns b;");
        due("none plain", 2, () -> x.plain(0, 0));
        due("side 0, which has no turn", 2, () -> x.plain(0, 1));
        // 5 is not less than 2: it passes.
        due("side 1", 10, () -> x.plain(1, 2));
        StrikeBench y = Bench.of("juror 9 1 20 0;juror 5 0 20 0;juror 0 8 20 0;seats 2;turns ab;");
        // Plain, side 0 leaves all, as 5 is not less than 0; side 1 strikes 1, as 0 is less than 8.
        due("both", 2 * (9 + 0), () -> y.plain(0, 3));
        due("both, to side 1", 2 * (1 + 8), () -> y.plain(1, 3));
        // Side 0 does best to strike 2: then side 1, by best play or plain, has 1 and 0, and passes or strikes nobody.
        due("side 1 alone", 2 * (9 + 5), () -> y.plain(0, 2));
        due("none", 2 * (9 + 5), () -> y.plain(0, 0));
        due("side 0 alone", 2 * 9, () -> y.plain(0, 1));
        due("no turn at all", 2, () -> Bench.of(TWO).plain(0, 3));
        due("ahead of any text", 0, () -> new StrikeBench().plain(0, 3));
    }

    private static void plainAgainstBest() {
        StrikeBench x = Bench.of(AS_IF);
        due("best play", 2, () -> x.value(0));
        // Did side 0 know that side 1 plays plain it would pass, and have 10.
        due("as if both did so", 2, () -> x.plain(0, 2));
        due("to side 1", 8, () -> x.plain(1, 2));
        x.pass();
        due("side 1 plain", 10, () -> x.plain(0, 2));
        due("side 1 by best play", 1, () -> x.plain(0, 1));
    }

    private static void plainNoneSuch() {
        StrikeBench x = Bench.of(TWO + "turns ab;");
        for (int side : new int[] {-1, 2, LEAST, MOST}) {
            due("plain(" + side + ", 0)", BAD_ARGUMENT, () -> x.plain(side, 0));
        }
        for (int bits : new int[] {-1, 4, 7, LEAST, MOST}) {
            due("plain(0, " + bits + ")", BAD_ARGUMENT, () -> x.plain(0, bits));
        }
        due("3 is one", 18, () -> x.plain(0, 3));
    }

    private static void once() {
        StrikeBench x = Bench.of("juror 9 -9 20 0;juror -9 9 20 0;juror 1 1 20 0;juror 2 3 20 0;seats 1;spare 1;turns ab;");
        int[] due = {1, 0b10, 0b01, 2 * 1 + 2, 2 * 1 + 3};
        for (int i = 0; i < due.length; i++) {
            int what = i;
            due("once(" + i + ")", due[i], () -> x.once(what));
        }
        StrikeBench empty = new StrikeBench();
        int[] dueEmpty = {1, 0, 0, 0, 0};
        for (int i = 0; i < dueEmpty.length; i++) {
            int what = i;
            due("of nobody, once(" + i + ")", dueEmpty[i], () -> empty.once(what));
        }
        due("the most there can be", 176 * 176, () -> Bench.of("juror 0 0 20 0;".repeat(10) + "turns aaabbb;").once(0));
    }

    private static void onceNone() {
        // Whatever the one names, the other would rather have named another one.
        StrikeBench x = Bench.of("juror 2 -2 20 0;juror 1 3 20 0;juror 3 -3 20 0;seats 1;spare 1;turns ab;");
        due("none", 0, () -> x.once(0));
        for (int what = 1; what <= 4; what++) {
            int of = what;
            due("once(" + what + ")", NOBODY, () -> x.once(of));
        }
        x.order(0, 0);
        due("one", 1, () -> x.once(0));
        due("with a worth", 5, () -> x.once(3));
        x.undo();
        due("none again", NOBODY, () -> x.once(3));
    }

    private static void onceNoneSuch() {
        StrikeBench x = Bench.of(TWO + "turns ab;");
        for (int what : new int[] {-1, 5, LEAST, MOST}) {
            due("once(" + what + ")", BAD_ARGUMENT, () -> x.once(what));
        }
        x.order(8, 0);
        due("ahead of too many turns", BAD_ARGUMENT, () -> x.once(5));
    }

    private static void onceMoreThan3() {
        StrikeBench x = Bench.of(ONE + "turns aaaa;");
        due("four of side 0", BAD_STATE, () -> x.once(0));
        x.pass();
        due("three", 1, () -> x.once(0));
        x.order(4, 15);
        due("four of side 1", BAD_STATE, () -> x.once(4));
        x.order(7, 0b1010101);
        due("four of side 1 among seven", BAD_STATE, () -> x.once(1));
        x.order(7, 0b0101010);
        due("four of side 0 among seven", BAD_STATE, () -> x.once(1));
        x.order(6, 0b101010);
        // Nobody names him, or both do and neither can save him alone.
        due("three of each", 2, () -> x.once(0));
        x.order(8, 0);
        due("eight", BAD_STATE, () -> x.once(0));
        due("all are counted", 5, () -> x.status(2));
    }

    private static void countInSight() {
        StrikeBench x = Bench.of("juror 1 1 20 0;".repeat(6) + "seats 2;spare 1;turns ab;");
        due("box and spare", 3, () -> x.count(2, 21));
        x.strike(1);
        due("who is struck does not count, who moved up does", 3, () -> x.count(2, 21));
        x.rule(1, 0);
        due("no spare", 2, () -> x.count(2, 21));
        x.rule(0, 6);
        x.rule(1, 3);
        due("not so many", 5, () -> x.count(2, 21));
        due("nobody", 0, () -> new StrikeBench().count(2, MOST));
        due("the most", 9, () -> Bench.of("juror 1 1 20 3;".repeat(10) + "seats 6;spare 3;").count(1, 0));
    }

    private static void countKin() {
        StrikeBench x = Bench.of("juror 1 1 20 0;juror 1 1 20 1;juror 1 1 20 2;juror 1 1 20 3;juror 1 1 20 1;seats 6;");
        due("of side 0", 3, () -> x.count(0, 0));
        due("of side 1", 2, () -> x.count(1, 0));
        for (int n : new int[] {-1, 99, LEAST, MOST}) {
            due("of side 0, whatever n", 3, () -> x.count(0, n));
            due("of side 1, whatever n", 2, () -> x.count(1, n));
        }
        StrikeBench behind = Bench.of("juror 1 1 20 0;juror 1 1 20 2;juror 1 1 20 1;juror 1 1 20 3;seats 1;spare 1;");
        due("none of side 0 in sight", 0, () -> behind.count(0, 0));
        due("the spare one", 1, () -> behind.count(1, 0));
    }

    private static void countAge() {
        StrikeBench x = Bench.of("juror 1 1 18 0;juror 1 1 40 0;juror 1 1 99 0;seats 6;");
        int[][] due = {{LEAST, 0}, {0, 0}, {18, 0}, {19, 1}, {40, 1}, {41, 2}, {99, 2}, {100, 3}, {MOST, 3}};
        for (int[] d : due) {
            due("below " + d[0], d[1], () -> x.count(2, d[0]));
        }
    }

    private static void countNoneSuch() {
        StrikeBench x = Bench.of(ONE);
        for (int what : new int[] {-1, 3, LEAST, MOST}) {
            due("count(" + what + ", 50)", BAD_ARGUMENT, () -> x.count(what, 50));
        }
    }

    private static void printFrom0() {
        due("of nobody", 0, () -> new StrikeBench().print());
        due("of an empty row", 0, () -> Bench.of(ONE + "cause a 1=1;").print());
        due("of one", -1, () -> Bench.of(ONE).print());
        StrikeBench x = Bench.of(ONE + "turns b;");
        x.strike(0);
        due("struck by side 1", 1, x::print);
        // Only who is in the row: 1, 2 and 3 of five.
        due("of the row", ((((1 * 31 - 1) * 31 + 2) * 31 - 1) * 31 + 3) * 31 - 1, () -> Bench.of(FILLED).print());
    }

    private static void printSum() {
        StrikeBench x = Bench.of(ONE.repeat(10) + "turns abababab;");
        for (int i = 9; i >= 2; i--) {
            x.strike(i);
        }
        // Ten are too many for a long: it comes round, as longs do.
        BigInteger sum = BigInteger.ZERO;
        BigInteger times = BigInteger.valueOf(31);
        int[] strikers = {NONE, NONE, 1, 0, 1, 0, 1, 0, 1, 0};
        for (int i = 0; i < 10; i++) {
            sum = sum.multiply(times).add(BigInteger.valueOf(i));
            sum = sum.multiply(times).add(BigInteger.valueOf(strikers[i]));
        }
        Bench.holds("the sum does not come round", sum.bitLength() > 63);
        due("ten", sum.longValue(), x::print);
        // As the shared runs tell it: five, of whom side 0 struck 1.
        StrikeBench five = Bench.of(ONE.repeat(5) + "turns a;");
        five.strike(1);
        due("five", -825322000014L, five::print);
    }

    private static void status() {
        StrikeBench x = Bench.of(TWO + "turns a;");
        for (int what = 0; what < 3; what++) {
            int of = what;
            due("none yet of " + what, 0, () -> x.status(of));
        }
        Bench.answer(() -> x.turn(1));
        Bench.answer(() -> x.worth(2));
        Bench.answer(() -> x.worth(2));
        x.pass();
        Bench.answer(x::pass);
        Bench.answer(x::pass);
        Bench.answer(x::pass);
        due("of no such element", 1, () -> x.status(0));
        due("of arguments", 2, () -> x.status(1));
        due("of states", 3, () -> x.status(2));
        x.undo();
        x.undo();
        due("taking back leaves them", 3, () -> x.status(2));
        Bench.tell(x, "?");
        feedBlanks(x, 26);
        x.undo();
        x.undo();
        due("a fault, a full tape, nothing to take back are no refusals", 6, () -> x.status(0) + x.status(1) + x.status(2));
        Bench.answer(() -> x.text(501));
        due("a text is", 3, () -> x.status(1));
        due("another object has its own", 0, () -> new StrikeBench().status(1));
    }

    private static void statusOfOthers() {
        StrikeBench x = new StrikeBench();
        for (int what : new int[] {-1, 3, LEAST, MOST}) {
            due("status(" + what + ")", NONE, () -> x.status(what));
        }
        due("which is no refusal", 0, () -> x.status(1));
    }
}
