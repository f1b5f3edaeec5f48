/**
 * The second and third part of "Terms", sentence by sentence, at the edges that each names: the GAME, BEST PLAY, STATES,
 * PLAIN play, AT ONCE and RESTS; ACTS and undo(), which exception is thrown and what a call that throws changes.
 * The words ahead of each test are the document's; the answers are worked out by hand.
 */
public final class GameSentencesTest {
    private static final int NONE = StrikeBench.NONE;
    private static final int NOBODY = StrikeBench.NOBODY;
    private static final long NO_SUCH = Bench.NO_SUCH;
    private static final long BAD_ARGUMENT = Bench.BAD_ARGUMENT;
    private static final long BAD_STATE = Bench.BAD_STATE;

    private GameSentencesTest() {
    }

    public static void main(String[] args) {
        theGame();
        bestPlay();
        plainPlay();
        strikesAtOnce();
        acts();
        Bench.end();
    }

    private static void theGame() {
        Bench.sentence("An object is used for at most 512 calls after it has been made", GameSentencesTest::calls512);
        Bench.sentence("A GAME: TURN by TURN (from the first one) the side whose it is STRIKES", GameSentencesTest::turnByTurn);
        Bench.sentence("one of the ROW who is not STRUCK", GameSentencesTest::whoIsNotStruck);
        Bench.sentence("(with BOX: only one who is IN THE BOX)", GameSentencesTest::onlyInTheBox);
        Bench.sentence("or PASSES.", GameSentencesTest::orPasses);
        Bench.sentence("IN THE BOX: the first SEATS of the ROW who are not STRUCK", GameSentencesTest::inTheBox);
        Bench.sentence("(fewer, if there are not so many).", GameSentencesTest::fewerInTheBox);
        Bench.sentence("Behind the last TURN those IN THE BOX are SWORN, the next SPARE ones are spare.", GameSentencesTest::swornAndSpare);
        Bench.sentence("WORTH of an end to a side: twice the WORTH to it of who is SWORN, and that of who is spare, together.",
                GameSentencesTest::worthOfAnEnd);
    }

    private static void bestPlay() {
        Bench.sentence("BEST PLAY, from the last TURN back", GameSentencesTest::fromTheLastTurnBack);
        Bench.sentence("does that by which the end (both playing on by BEST PLAY) has the greatest WORTH to it", GameSentencesTest::greatestToIt);
        Bench.sentence("of several that by which it has the greatest WORTH to the other one", GameSentencesTest::greatestToTheOther);
        Bench.sentence("of these PASSING first", GameSentencesTest::passingFirst);
        Bench.sentence("then the least number.", GameSentencesTest::thenTheLeastNumber);
        Bench.sentence("VALUE of a state to a side: WORTH of the end that comes by BEST PLAY.", GameSentencesTest::valueOfAState);
        Bench.sentence("STATES: unlike ones (who is STRUCK, which TURN is next)", GameSentencesTest::unlikeStates);
        Bench.sentence("that can be come to from here, this one and ends, too.", GameSentencesTest::statesFromHere);
    }

    private static void plainPlay() {
        Bench.sentence("PLAIN play: of who is IN THE BOX that with the least WORTH to it", GameSentencesTest::plainStrikesTheLeast);
        Bench.sentence("of several the least number: he is STRUCK", GameSentencesTest::plainOfSeveral);
        Bench.sentence("if that WORTH is less than that of the first of the ROW behind the BOX who is not STRUCK", GameSentencesTest::plainIfLess);
        Bench.sentence("(0, if there is none)", GameSentencesTest::plainNoneBehind);
        Bench.sentence("else it PASSES.", GameSentencesTest::plainPasses);
    }

    private static void strikesAtOnce() {
        Bench.sentence("AT ONCE: of the ROW as it is here (who is STRUCK is gone)", GameSentencesTest::struckIsGone);
        Bench.sentence("each side names as many as it has TURNS left, or fewer", GameSentencesTest::asManyAsTurnsOrFewer);
        Bench.sentence("(OPEN, whatever is told)", GameSentencesTest::openWhateverIsTold);
        Bench.sentence("all these are STRUCK, then who is SWORN and spare is seen.", GameSentencesTest::allTheseAreStruck);
        Bench.sentence("A REST: a couple of sets by which neither side has more WORTH by another set of its own.", GameSentencesTest::rest);
        Bench.sentence("Of RESTS the first: by the set of side 0 as bits (of numbers), the least first", GameSentencesTest::firstRest);
        Bench.sentence("then that of side 1.", GameSentencesTest::thenOfSideOne);
    }

    private static void acts() {
        Bench.sentence("ACTS: text() without a FAULT, strike(), pass(), rule(), order().", GameSentencesTest::whatIsAnAct);
        Bench.sentence("undo() takes the latest one back that is not yet", GameSentencesTest::latestNotYet);
        Bench.sentence("of the latest 8.", GameSentencesTest::ofTheLatestEight);
        Bench.sentence("Asked, nothing stays changed.", GameSentencesTest::askedNothingChanges);
        Bench.sentence("Of several exceptions of one call the one told first is thrown", GameSentencesTest::toldFirst);
        Bench.sentence("a call that throws changes nothing but status().", GameSentencesTest::throwingChangesNothing);
    }

    private static void due(String what, long want, Bench.Call call) {
        Bench.due(what, want, call);
    }

    /** A juror with these worths, of age 20 and no kin. */
    private static String j(int first, int second) {
        return "juror " + first + " " + second + " 20 0;";
    }

    /** Jurors with these worths to side 0 and none to side 1. */
    private static String ofFirst(int... worths) {
        StringBuilder text = new StringBuilder();
        for (int worth : worths) {
            text.append(j(worth, 0));
        }
        return text.toString();
    }

    /** Jurors with these worths to side 1 and none to side 0. */
    private static String ofSecond(int... worths) {
        StringBuilder text = new StringBuilder();
        for (int worth : worths) {
            text.append(j(0, worth));
        }
        return text.toString();
    }

    private static void value(String text, int toFirst, int toSecond) {
        StrikeBench x = Bench.of(text);
        due("value(0) of {" + text + "}", toFirst, () -> x.value(0));
        due("value(1) of {" + text + "}", toSecond, () -> x.value(1));
    }

    private static void line(String text, int... acts) {
        StrikeBench x = Bench.of(text);
        for (int i = 0; i < acts.length; i++) {
            int at = i;
            due("line(" + i + ") of {" + text + "}", acts[i], () -> x.line(at));
        }
        due("no more turns of {" + text + "}", NOBODY, () -> x.line(acts.length));
    }

    private static void states(String text, int want) {
        due("states() of {" + text + "}", want, () -> Bench.of(text).states());
    }

    private static void plain(String text, int side, int bits, int want) {
        due("plain(" + side + ", " + bits + ") of {" + text + "}", want, () -> Bench.of(text).plain(side, bits));
    }

    /** How many rests, the sets of the first one and what it is worth. */
    private static void once(StrikeBench x, int... want) {
        for (int i = 0; i < want.length; i++) {
            int what = i;
            due("once(" + i + ")", want[i], () -> x.once(what));
        }
    }

    private static void calls512() {
        StrikeBench x = new StrikeBench();
        x.feed(0x6a75726f, 0x72203120, 0x32203230, 0x20303b20, 0x20202020);
        x.text(20);
        for (int call = 3; call <= 509; call++) {
            x.rule(0, call % 6 + 1);
        }
        due("the 510th", 509 % 6 + 1, () -> x.rule(0, 1));
        due("the 511th", 7, x::undo);
        due("the 512th", 509 % 6 + 1, () -> x.told(4));
        StrikeBench y = new StrikeBench();
        for (int call = 1; call <= 511; call++) {
            Bench.answer(() -> y.turn(0));
        }
        due("511 refused ones", 511, () -> y.status(0));
    }

    private static void turnByTurn() {
        StrikeBench x = Bench.of(ofFirst(1, 2, 3, 4) + "turns abb;");
        int[] sides = {0, 1, 1};
        for (int i = 0; i < 3; i++) {
            int turn = i;
            due("whose turn " + i, sides[i], () -> x.told(9));
            due("left behind it", 2 - i, () -> x.strike(turn));
            due("by whom", sides[i], () -> x.juror(turn, 5));
        }
        due("none is left", NONE, () -> x.told(9));
        due("so nobody strikes", BAD_STATE, () -> x.strike(3));
        due("and nobody struck him", NONE, () -> x.juror(3, 5));
        due("a game of no turn", BAD_STATE, () -> Bench.of(ofFirst(1)).strike(0));
    }

    private static void whoIsNotStruck() {
        StrikeBench x = Bench.of(ofFirst(1, 2, 3) + "turns abab;");
        due("the last of the row", 3, () -> x.strike(2));
        due("not again", BAD_STATE, () -> x.strike(2));
        due("the first of the row", 2, () -> x.strike(0));
        due("nor he again", BAD_STATE, () -> x.strike(0));
        due("the only one", 1, () -> x.strike(1));
        due("nobody is left for the fourth turn", NONE, x::best);
        due("which may be passed", 0, x::pass);
        StrikeBench out = Bench.of("juror 1 1 20 1;juror 1 1 20 0;tales 1 1 20 0;tales 1 1 20 0;cause a kin=1;turns a;");
        due("an excused one", NO_SUCH, () -> out.strike(0));
        due("one who does not fill", NO_SUCH, () -> out.strike(3));
        due("one who fills", 0, () -> out.strike(2));
    }

    private static void onlyInTheBox() {
        StrikeBench x = Bench.of(ofFirst(1, 2, 3, 4) + "seats 2;spare 1;box;turns abab;");
        due("the spare one", BAD_STATE, () -> x.strike(2));
        due("behind all", BAD_STATE, () -> x.strike(3));
        due("the last in the box", 3, () -> x.strike(1));
        due("who moved up", 2, () -> x.strike(2));
        due("who moved up again", 1, () -> x.strike(3));
        due("the first one all the while", 0, () -> x.strike(0));
        // Best play keeps to it, too: 9 can't be come to by one strike in the box.
        value(ofFirst(1, 2, 9) + "seats 1;box;turns a;", 4, 0);
        value(ofFirst(2, 1, 9) + "seats 1;box;turns a;", 4, 0);
        value(ofFirst(2, 1, 9) + "seats 1;box;turns aa;", 18, 0);
        // Open, side 1 would strike 1, the spare one; in the box it can't.
        value(ofSecond(1, 0, 9) + "seats 1;spare 1;turns b;", 0, 11);
        value(ofSecond(5, 0, 9) + "seats 1;spare 1;box;turns b;", 0, 10);
        states(ofFirst(1, 2, 3) + "seats 1;box;turns a;", 1 + 2);
        states(ofFirst(1, 2, 3) + "seats 3;box;turns a;", 1 + 4);
        states(ofFirst(1, 2, 3) + "seats 6;box;turns a;", 1 + 4);
    }

    private static void orPasses() {
        StrikeBench x = Bench.of(ofFirst(1, 2) + "turns ab;");
        due("passes", 1, x::pass);
        due("nobody is struck", 0, () -> x.told(8));
        due("the next side's turn", 1, () -> x.told(9));
        due("passes, too", 0, x::pass);
        due("worth of all", 6, () -> x.worth(0));
        StrikeBench empty = Bench.of(ofFirst(1) + "cause a 1=1;turns ab;");
        due("with nobody in the row", 1, empty::pass);
    }

    private static void box(StrikeBench x, int... inBox) {
        for (int i = 0; i < inBox.length; i++) {
            int juror = i;
            due("in the box " + i, inBox[i], () -> x.juror(juror, 7));
        }
    }

    private static void inTheBox() {
        StrikeBench x = Bench.of(ofFirst(1, 2, 3, 4) + "seats 2;turns abab;");
        box(x, 1, 1, 0, 0);
        x.strike(3);
        box(x, 1, 1, 0, 0);
        x.strike(0);
        box(x, 0, 1, 1, 0);
        x.rule(0, 1);
        box(x, 0, 1, 0, 0);
        StrikeBench fills = Bench.of("juror 1 1 20 1;juror 1 1 20 0;tales 1 1 20 0;tales 1 1 20 0;cause a kin=1;");
        box(fills, 0, 1, 1, 0);
        due("the first seat", 1, () -> fills.seat(0, false));
        due("the second seat", 2, () -> fills.seat(1, false));
    }

    private static void fewerInTheBox() {
        StrikeBench x = Bench.of(ofFirst(1, 2, 3) + "seats 3;turns abab;");
        box(x, 1, 1, 1);
        x.strike(1);
        box(x, 1, 0, 1);
        due("a second seat", 2, () -> x.seat(1, false));
        due("no third", NOBODY, () -> x.seat(2, false));
        x.strike(0);
        x.strike(2);
        box(x, 0, 0, 0);
        due("none", NOBODY, () -> x.seat(0, false));
        due("worth nothing", 0, () -> x.worth(0));
        box(Bench.of(ofFirst(1) + "seats 6;"), 1);
    }

    private static void swornAndSpare() {
        StrikeBench x = Bench.of(ofFirst(1, 2, 3, 4, 5) + "seats 2;spare 2;turns ab;");
        x.strike(1);
        x.pass();
        int[] sworn = {0, 2, NOBODY};
        int[] spare = {3, 4, NOBODY};
        for (int i = 0; i < 3; i++) {
            int at = i;
            due("sworn " + i, sworn[i], () -> x.seat(at, false));
            due("spare " + i, spare[i], () -> x.seat(at, true));
        }
        due("the end", 2 * (1 + 3) + 4 + 5, () -> x.worth(0));
        due("of no spare", 2 * (1 + 2), () -> Bench.of(ofFirst(1, 2, 3)).worth(0));
        // Fewer spare ones than there could be, and none behind a box that is not full.
        due("one spare", 2 * (1 + 2) + 3, () -> Bench.of(ofFirst(1, 2, 3) + "spare 3;").worth(0));
        due("box not full", 2 * (1 + 2 + 3), () -> Bench.of(ofFirst(1, 2, 3) + "seats 4;spare 3;").worth(0));
    }

    private static void worthOfAnEnd() {
        String ten = "juror 50 -50 20 0;".repeat(10);
        due("the most there is", 2 * 6 * 50 + 3 * 50, () -> Bench.of(ten + "seats 6;spare 3;").worth(0));
        due("the least there is", -2 * 6 * 50 - 3 * 50, () -> Bench.of(ten + "seats 6;spare 3;").worth(1));
        due("one seat", 100, () -> Bench.of(ten + "seats 1;").worth(0));
        StrikeBench x = Bench.of(j(1, 10) + j(2, 20) + j(3, 30) + "seats 1;spare 1;");
        due("to side 0", 2 * 1 + 2, () -> x.worth(0));
        due("to side 1", 2 * 10 + 20, () -> x.worth(1));
        due("of nobody", 0, () -> Bench.of(j(9, 9) + "cause a 1=1;").worth(1));
        value(j(1, 10) + j(2, 20) + j(3, 30) + "seats 1;spare 1;", 4, 40);
    }

    private static void fromTheLastTurnBack() {
        // Side 1 would like 1 best, but side 0 has the last turn and would strike him: so it sees to it that 2 sits.
        String text = j(1, 0) + j(0, 9) + j(5, 5) + "seats 1;turns ba;";
        value(text, 10, 10);
        line(text, 0, 1);
        // With the last turn of its own it gets 1: side 0 strikes nobody for more than 2.
        value(j(1, 0) + j(0, 9) + j(5, 5) + "seats 1;turns b;", 0, 18);
        // Eight turns: nine must go ahead of the last one, so one is missing; with two seats he sits beside another.
        String far = "juror 1 1 20 0;".repeat(9) + "juror 50 -50 20 0;";
        value(far + "seats 1;turns aaaaaaaa;", 2, 2);
        value(far + "seats 2;turns aaaaaaaa;", 102, -98);
    }

    private static void greatestToIt() {
        value(j(1, 9) + j(5, 0) + j(9, 0) + "seats 1;turns a;", 10, 0);
        line(j(1, 9) + j(5, 0) + j(9, 0) + "seats 1;turns a;", 0);
        value(j(9, 1) + j(0, 5) + "seats 1;turns b;", 0, 10);
        line(j(9, 1) + j(0, 5) + "seats 1;turns b;", 0);
        // Not the difference, nor the sum: 3 of its own with 50 to the other is more than 2 with none.
        line(j(2, 0) + j(3, 50) + "seats 1;turns a;", 0);
        line(j(3, -50) + j(2, 50) + "seats 1;turns a;", NONE);
        // Below 0 nobody is better than he.
        value(j(-1, 50) + "seats 1;turns a;", 0, 0);
        line(j(-1, 50) + "seats 1;turns a;", 0);
    }

    private static void greatestToTheOther() {
        line(j(3, 1) + j(3, 4) + "seats 1;turns a;", 0);
        value(j(3, 1) + j(3, 4) + "seats 1;turns a;", 6, 8);
        line(j(1, 3) + j(4, 3) + "seats 1;turns b;", 0);
        value(j(1, 3) + j(4, 3) + "seats 1;turns b;", 8, 6);
        // Where passing leaves the other more, it passes.
        line(j(3, 4) + j(3, 1) + "seats 1;turns a;", NONE);
        // The greatest of all, be his number what it may: with 0 or 1 struck 2 is spare, with 2 struck 3 is.
        line(ofSecond(0, 0, 1, 9) + "seats 2;spare 1;turns a;", 0);
        line(ofSecond(5, 5, 1, 9) + "seats 2;spare 1;turns a;", 2);
    }

    private static void passingFirst() {
        line(j(3, 1) + j(3, 1) + j(3, 1) + "seats 1;turns b;", NONE);
        line(j(3, 1) + j(3, 1) + j(3, 1) + "seats 1;turns a;", NONE);
        line(j(0, 0) + "seats 1;turns ab;", NONE, NONE);
        line(j(1, 1) + "cause a 1=1;turns ba;", NONE, NONE);
        // 2 and 3 are out of sight, so striking them is as good as passing.
        line(j(5, 5) + j(4, 4) + j(1, 1) + j(1, 1) + "seats 2;turns a;", NONE);
    }

    private static void thenTheLeastNumber() {
        line(j(1, 1) + j(2, 2) + j(1, 1) + j(2, 2) + "seats 3;turns b;", 0);
        line(j(2, 2) + j(1, 1) + j(1, 1) + j(2, 2) + "seats 3;turns a;", 1);
        line(ofFirst(-1, -2, 5) + "seats 1;turns aa;", 0, 1);
        // A number, not a place: 0 is excused.
        line("juror 1 1 20 1;juror 1 1 20 0;tales 5 5 30 0;seats 1;turns a;cause b kin=1;", 1);
        // 3, who fills, is the greatest number, and the best.
        line("juror 1 1 20 1;juror 4 4 20 0;juror 4 4 20 0;tales -5 -5 30 0;tales 9 9 20 0;seats 3;turns a;cause b kin=1;", 3);
    }

    private static void valueOfAState() {
        StrikeBench x = Bench.of(j(1, 0) + j(0, 9) + j(5, 5) + "seats 1;turns ba;");
        due("to side 0", 10, () -> x.value(0));
        x.pass();
        due("behind a pass, which was not the best", 2, () -> x.value(0));
        due("to side 1 then", 0, () -> x.value(1));
        x.strike(0);
        due("of an end", 0, () -> x.value(0));
        due("of an end to side 1", 18, () -> x.value(1));
        due("as its worth", 18, () -> x.worth(1));
        due("ahead of any text", 0, () -> new StrikeBench().value(1));
    }

    private static void unlikeStates() {
        // Behind one turn nobody, 0 or 1 is struck; behind two also both, in whichever order and by whichever side.
        states(ofFirst(1, 2) + "turns ab;", 1 + 3 + 4);
        states(ofFirst(1, 2) + "turns aa;", 1 + 3 + 4);
        states(ofFirst(1) + "turns ab;", 1 + 2 + 2);
        states(ofFirst(1, 1) + "turns a;", 1 + 3);
        states(ofFirst(1) + "cause a 1=1;turns abab;", 5);
        states(ofFirst(1, 2, 3) + "turns aaaaaaaa;", 1 + 4 + 7 + 8 + 8 + 8 + 8 + 8 + 8);
        states("juror 1 2 20 0;".repeat(10) + "turns abababab;", 1 + 11 + 56 + 176 + 386 + 638 + 848 + 968 + 1013);
        // With box, one seat: the first so many, one after the other.
        states("juror 1 2 20 0;".repeat(10) + "seats 1;box;turns abababab;", 1 + 2 + 3 + 4 + 5 + 6 + 7 + 8 + 9);
    }

    private static void statesFromHere() {
        states(ofFirst(1, 2), 1);
        due("ahead of any text", 1, () -> new StrikeBench().states());
        StrikeBench x = Bench.of(ofFirst(1, 2, 3) + "turns aba;");
        due("from the first turn", 1 + 4 + 7 + 8, x::states);
        x.strike(1);
        due("behind a strike", 1 + 3 + 4, x::states);
        x.pass();
        due("behind a pass", 1 + 3, x::states);
        x.strike(0);
        due("of an end", 1, x::states);
        x.undo();
        due("taken back", 1 + 3, x::states);
    }

    private static void plainStrikesTheLeast() {
        plain(ofFirst(3, 1, 2, 5) + "seats 3;turns a;", 0, 1, 2 * (3 + 2 + 5));
        plain(ofSecond(3, 2, 1, 5) + "seats 3;turns b;", 1, 2, 2 * (3 + 2 + 5));
        // He who has least of all is behind the box.
        plain(ofFirst(3, 2, 5, -9) + "seats 2;spare 1;turns a;", 0, 1, 2 * (3 + 5) - 9);
        // To it: what he is worth to the other one does not count.
        plain(j(1, 9) + j(5, 0) + "seats 1;turns a;", 1, 1, 0);
        plain(j(1, 9) + j(5, 0) + "seats 1;turns b;", 1, 2, 18);
        // Two turns: 0 and then, when 2 has moved up, 1.
        plain(ofFirst(1, 2, 7, 8) + "seats 2;turns aa;", 0, 1, 2 * (7 + 8));
        // Open or box, it is one IN THE BOX.
        plain(ofFirst(3, 2, 5, -9) + "seats 2;spare 1;box;turns a;", 0, 1, 2 * (3 + 5) - 9);
    }

    private static void plainOfSeveral() {
        // Of 0 and 1, alike to side 0, 0 goes: side 1 has 9 and 9 then.
        plain(j(1, 0) + j(1, 9) + j(2, 9) + "seats 2;turns a;", 1, 1, 2 * (9 + 9));
        plain(j(1, 9) + j(1, 0) + j(2, 9) + "seats 2;turns a;", 1, 1, 2 * (0 + 9));
        plain(j(5, 0) + j(1, 2) + j(1, 4) + j(2, 8) + "seats 3;turns a;", 1, 1, 2 * (0 + 4 + 8));
        plain(j(7, 1) + j(3, 1) + j(9, 4) + "seats 2;turns b;", 0, 2, 2 * (3 + 9));
    }

    private static void plainIfLess() {
        plain(ofFirst(2, 3) + "seats 1;turns a;", 0, 1, 6);
        // As much is not less.
        plain(j(2, 0) + j(2, 5) + "seats 1;turns a;", 1, 1, 0);
        plain(ofFirst(2, 1) + "seats 1;turns a;", 0, 1, 4);
        // The first behind the box, not the best behind it.
        plain(ofFirst(2, 1, 9) + "seats 1;turns a;", 0, 1, 4);
        // Who is struck is not the first behind it.
        StrikeBench x = Bench.of(ofFirst(2, 1, 9) + "seats 1;turns aa;");
        x.strike(1);
        due("the next one", 18, () -> x.plain(0, 1));
        StrikeBench y = Bench.of(ofFirst(2, 9, 1) + "seats 1;turns aa;");
        y.strike(1);
        due("the next one is less", 4, () -> y.plain(0, 1));
        // Below 0 it is the same.
        plain(ofFirst(-3, -2) + "seats 1;turns a;", 0, 1, -4);
        plain(ofFirst(-3, -4) + "seats 1;turns a;", 0, 1, -6);
    }

    private static void plainNoneBehind() {
        plain(ofFirst(-1, 3) + "seats 2;turns a;", 0, 1, 6);
        plain(ofFirst(1, 3) + "seats 2;turns a;", 0, 1, 8);
        plain(j(0, 3) + "turns a;", 1, 1, 6);
        plain(j(-1, 3) + "turns a;", 1, 1, 0);
        plain(ofFirst(-2, -1, 5) + "seats 6;turns aaa;", 0, 1, 10);
        plain(ofSecond(-2, 5) + "seats 2;turns b;", 1, 2, 10);
        // Of ten all but the last two go one by one, at first for the next one's sake, then for none's.
        plain(ofFirst(-10, -9, -8, -7, -6, -5, -4, -3, -2, -1) + "seats 6;turns aaaaaaaa;", 0, 1, 2 * (-2 - 1));
        // He who stood behind the box before, and is struck, is no one behind it.
        StrikeBench x = Bench.of(ofFirst(1, 5, 9) + "seats 2;turns aa;");
        due("9 behind the box", 2 * (5 + 9), () -> x.plain(0, 1));
        x.strike(2);
        due("none behind it", 2 * (1 + 5), () -> x.plain(0, 1));
    }

    private static void plainPasses() {
        plain(ofFirst(5, 4) + "seats 1;turns a;", 0, 1, 10);
        plain(ofFirst(5, 4, 3) + "seats 2;turns aa;", 0, 1, 18);
        // With nobody in the box.
        plain(ofFirst(5) + "cause a 1=1;turns ab;", 0, 3, 0);
        plain(ofFirst(-5) + "turns aa;", 0, 1, 0);
        due("ahead of any text", 0, () -> new StrikeBench().plain(1, 3));
    }

    private static void struckIsGone() {
        StrikeBench x = Bench.of(ofFirst(-5, -4, 9) + "seats 1;turns aaa;");
        // Only both of 0 and 1 are best: nobody can be named beside them but 2.
        once(x, 1, 0b011, 0, 18, 0);
        x.strike(0);
        once(x, 1, 0b010, 0, 18, 0);
        x.strike(1);
        // Nobody, as 2 alone could be named.
        once(x, 1, 0, 0, 18, 0);
        x.strike(2);
        once(x, 1, 0, 0, 0, 0);
        due("and taken back", 3, x::undo);
        once(x, 1, 0, 0, 18, 0);
        once(new StrikeBench(), 1, 0, 0, 0, 0);
    }

    private static void asManyAsTurnsOrFewer() {
        // One turn: 0 goes, and 1 sits.
        once(Bench.of(ofFirst(-5, -4, 9) + "seats 1;turns a;"), 1, 0b001, 0, -8, 0);
        once(Bench.of(ofFirst(-5, -4, 9) + "seats 1;turns aa;"), 1, 0b011, 0, 18, 0);
        // No turn: the empty sets alone.
        once(Bench.of(ofFirst(-5, -4, 9) + "seats 1;"), 1, 0, 0, -10, 0);
        // Fewer than turns: nobody, or 1, who does not sit.
        once(Bench.of(ofFirst(9, 1) + "seats 1;turns aa;"), 2, 0, 0, 18, 0);
        // Side 1 by its own turns, wherever they stand among the others.
        once(Bench.of(ofSecond(-5, -4, 9) + "seats 1;turns bb;"), 1, 0, 0b011, 0, 18);
        once(Bench.of(ofSecond(-5, -4, 9) + "seats 1;turns b;"), 1, 0, 0b001, 0, -8);
        // All alike: each of 1 + 4 + 6 + 4 sets of at most three of four is a rest with each of 1 + 4 sets of at most one.
        due("as many couples", 15 * 5, () -> Bench.of(ofFirst(0, 0, 0, 0) + "turns aaab;").once(0));
        due("of ten, three each", 176 * 176, () -> Bench.of("juror 0 0 20 0;".repeat(10) + "turns ababab;").once(0));
        StrikeBench x = Bench.of(ofFirst(0, 0, 0, 0) + "turns aaab;");
        x.pass();
        due("turns that are left", 11 * 5, () -> x.once(0));
        x.order(0, 0);
        due("none is left", 1, () -> x.once(0));
    }

    private static void openWhateverIsTold() {
        String text = ofFirst(0, -5, 9) + "seats 1;spare 1;turns aa;";
        // 0 and 1 both go, though 1 is not in the box.
        once(Bench.of(text), 1, 0b011, 0, 18, 0);
        once(Bench.of(text + "box;"), 1, 0b011, 0, 18, 0);
        // The spare one alone.
        once(Bench.of(ofFirst(5, -5, 9) + "seats 1;spare 1;box;turns a;"), 1, 0b010, 0, 19, 0);
        StrikeBench x = Bench.of(text);
        x.rule(2, 1);
        once(x, 1, 0b011, 0, 18, 0);
    }

    private static void allTheseAreStruck() {
        // Both may name the same one: either of them, or both, name 0.
        once(Bench.of(j(-1, -1) + j(5, 5) + "seats 1;turns ab;"), 3, 0, 1, 10, 10);
        // Side 0 would have 1 gone, side 1 would have 0 gone, so 2 sits and 3 is spare.
        once(Bench.of(j(9, -9) + j(-9, 9) + j(1, 1) + j(2, 3) + "seats 1;spare 1;turns ab;"), 1, 0b10, 0b01, 4, 5);
        // Nobody is left to sit.
        once(Bench.of(j(-1, 3) + "seats 1;turns a;"), 1, 1, 0, 0, 0);
    }

    private static void rest() {
        // As much by another set is not more.
        once(Bench.of(j(3, 3) + j(3, 3) + "seats 1;turns a;"), 3, 0, 0, 6, 6);
        // One of either side, of which it is not so for the other: each would move.
        StrikeBench none = Bench.of(j(2, -2) + j(1, 3) + j(3, -3) + "seats 1;spare 1;turns ab;");
        once(none, 0, NOBODY, NOBODY, NOBODY, NOBODY);
        // Side 0 would have 1 sit, side 1 would have 0 sit, each rather than nobody: 0 sits if side 1 names 1 and side 0
        // nobody or 1; 1 sits if side 0 names 0 and side 1 nobody or 0.
        once(Bench.of(j(1, 4) + j(2, 3) + "seats 1;turns ab;"), 4, 0, 0b10, 2, 8);
        // By another set of its own alone: if one names 0 and the other 1, both have 18, but from nobody or 2 of each (four
        // couples) neither comes there alone.
        once(Bench.of(j(1, 1) + j(0, 0) + j(9, 9) + "seats 1;turns ab;"), 4 + 2, 0, 0, 2, 2);
    }

    private static void firstRest() {
        // 0 and 1 must go, by two of side 0's three turns, with or without 2; first without.
        once(Bench.of(ofFirst(-5, -4, 9, 9) + "seats 1;turns aaa;"), 3, 0b0011, 0, 18, 0);
        // Either side may do it: the least set of side 0 comes first, whatever side 1's is.
        once(Bench.of(j(-1, -1) + j(5, 5) + "seats 1;turns ab;"), 3, 0, 1);
        // Numbers, not places: 0 is excused, and 1 is the first of the row.
        StrikeBench x = Bench.of("juror 1 1 20 1;juror -1 -1 20 0;juror -2 -2 20 0;tales 5 5 30 0;seats 1;turns aa;cause b kin=1;");
        once(x, 1, 0b110, 0, 10, 10);
        // The greatest number there is: 13.
        StrikeBench last = Bench.of("juror 0 0 20 0;".repeat(6) + "juror 0 0 20 1;".repeat(4) + "tales 0 0 20 0;".repeat(3)
                + "tales -9 0 20 0;seats 6;spare 3;turns aa;cause a kin=1;");
        due("the tenth of the row", 9, () -> last.juror(13, 6));
        last.strike(0);
        once(last, 1, 1 << 13, 0, 0, 0);
    }

    private static void thenOfSideOne() {
        // Side 0 names nobody, side 1 names 0, and 2 with him or not.
        StrikeBench x = Bench.of(j(-1, -1) + j(5, 5) + j(0, 0) + "seats 1;turns bb;");
        once(x, 2, 0, 0b001, 10, 10);
        StrikeBench y = Bench.of(ofSecond(-5, -4, 9, 9) + "seats 1;turns bbb;");
        once(y, 3, 0, 0b0011, 0, 18);
        StrikeBench z = Bench.of("juror 1 1 20 1;juror -1 -1 20 0;juror -2 -2 20 0;tales 5 5 30 0;seats 1;turns bb;cause b kin=1;");
        once(z, 1, 0, 0b110, 10, 10);
    }

    private static void whatIsAnAct() {
        StrikeBench x = new StrikeBench();
        due("none", 0, () -> x.told(11));
        x.feed(0x6a75726f, 0x72203120, 0x32203230, 0x20303b20, 0x20202020);
        due("feed() is none", 0, () -> x.told(11));
        Bench.answer(() -> x.text(21));
        due("nor a text() that throws", 0, () -> x.told(11));
        x.text(20);
        due("text()", 1, () -> x.told(11));
        Bench.tell(x, "box;");
        due("not with a fault", 1, () -> x.told(11));
        x.order(3, 0);
        due("order()", 2, () -> x.told(11));
        x.strike(0);
        due("strike()", 3, () -> x.told(11));
        x.pass();
        due("pass()", 4, () -> x.told(11));
        x.rule(0, 2);
        due("rule(), though it be as it was", 5, () -> x.told(11));
        x.order(1, 0);
        due("order(), though it be as it was", 6, () -> x.told(11));
        Bench.answer(() -> x.strike(0));
        Bench.answer(() -> x.rule(0, 7));
        Bench.answer(() -> x.order(9, 0));
        due("not what is refused", 6, () -> x.told(11));
        x.value(0);
        x.plain(0, 3);
        x.more(1, true);
        due("nor what is asked", 6, () -> x.told(11));
        x.undo();
        due("undo() itself is none", 5, () -> x.told(11));
    }

    private static void latestNotYet() {
        StrikeBench x = Bench.of(ofFirst(1, 2, 3) + "seats 1;turns abab;");
        x.strike(2);
        x.pass();
        x.rule(0, 3);
        x.order(2, 3);
        x.rule(2, 1);
        due("the box", 5, x::undo);
        due("is open again", 0, () -> x.told(6));
        due("the order", 4, x::undo);
        due("is of two again", 2, () -> x.told(7));
        due("of which the first is side 0's", 0, () -> x.turn(0));
        due("the seats", 3, x::undo);
        due("are one again", 1, () -> x.told(4));
        due("the pass", 2, x::undo);
        due("is side 1's turn again", 1, () -> x.told(9));
        due("the strike", 1, x::undo);
        due("is nobody's again", NONE, () -> x.juror(2, 5));
        due("the text", 0, x::undo);
        due("tells nothing", 0, () -> x.told(0));
        due("none could be", NONE, x::undo);
        due("still none", NONE, x::undo);
        due("and seats are two", 2, () -> x.told(4));
        x.rule(0, 5);
        due("an act behind it", 0, x::undo);
        due("is taken back", 2, () -> x.told(4));
        StrikeBench y = Bench.of(ofFirst(1, 2, 3) + "seats 1;turns abab;");
        Bench.tell(y, ofFirst(4));
        due("a second text", 1, y::undo);
        due("leaves the first", 3, () -> y.told(0));
    }

    private static void ofTheLatestEight() {
        StrikeBench x = Bench.of(ofFirst(1, 2, 3));
        for (int seats = 1; seats <= 6; seats++) {
            x.rule(0, seats);
        }
        due("seven", 7, () -> x.told(11));
        x.rule(1, 1);
        due("eight", 8, () -> x.told(11));
        x.rule(1, 2);
        due("not nine", 8, () -> x.told(11));
        for (int left = 7; left >= 0; left--) {
            due("left behind it", left, x::undo);
        }
        due("the ninth", NONE, x::undo);
        due("the text stays", 3, () -> x.told(0));
        due("with the seats it was told", 2, () -> x.told(4));
        // All eight can be done and taken back anew.
        for (int i = 0; i < 9; i++) {
            x.rule(0, i % 6 + 1);
        }
        due("eight again", 8, () -> x.told(11));
        for (int i = 0; i < 8; i++) {
            x.undo();
        }
        due("the first of nine stays", 1, () -> x.told(4));
    }

    /** Everything that can be asked, one behind the other. */
    private static String all(StrikeBench x) {
        StringBuilder told = new StringBuilder();
        for (int what = 0; what < 12; what++) {
            told.append(x.told(what)).append(' ');
        }
        for (int number = 0; number < x.told(0) + x.told(1); number++) {
            for (int what = 0; what < 8; what++) {
                told.append(x.juror(number, what)).append(' ');
            }
        }
        for (int i = 0; i < x.told(7); i++) {
            told.append(x.turn(i)).append(' ');
        }
        told.append(x.fault()).append(' ').append(x.print()).append(' ').append(x.states()).append(' ').append(x.best());
        for (int side = 0; side < 2; side++) {
            told.append(' ').append(x.worth(side)).append(' ').append(x.value(side)).append(' ').append(x.plain(side, 3));
        }
        for (int what = 0; what < 5; what++) {
            int of = what;
            told.append(' ').append(Bench.answer(() -> x.once(of)));
        }
        return told.toString();
    }

    private static StrikeBench inTheMiddle() {
        StrikeBench x = Bench.of("juror 5 -3 30 1;juror -2 4 40 2;juror 3 3 50 0;juror 0 1 60 3;juror 7 -7 20 0;tales 9 9 25 0;"
                + "cause a kin=3;seats 2;spare 1;box;turns abab;");
        Bench.tell(x, "seats 9;");
        x.strike(1);
        x.feed(0, 0, 0, 0, 0);
        return x;
    }

    private static Bench.Call[] questions(StrikeBench x) {
        return new Bench.Call[] {() -> x.told(3), () -> x.juror(0, 6), () -> x.seat(1, true), () -> x.turn(0),
            () -> x.worth(1), () -> x.value(0), x::best, () -> x.line(2), () -> x.cost(0), () -> x.cost(NONE), x::states,
            () -> x.more(0, true), () -> x.more(1, false), () -> x.other(0, 0), () -> x.other(1, 2), () -> x.without(0, 0),
            () -> x.without(1, 5), () -> x.plain(0, 1), () -> x.plain(1, 2), () -> x.once(0), () -> x.once(4),
            () -> x.count(2, 40), x::print, () -> x.status(1), x::fault};
    }

    private static void askedNothingChanges() {
        String before = all(inTheMiddle());
        int many = questions(inTheMiddle()).length;
        for (int i = 0; i < many; i++) {
            // A new object for each, as one is used for 512 calls at most.
            StrikeBench x = inTheMiddle();
            Bench.Call[] questions = questions(x);
            long first = questions[i].answer();
            Bench.holds("question " + i + " changed something", before.equals(all(x)));
            // What another question looked at must not be taken for what is.
            for (int k = 0; k < many; k++) {
                questions[k].answer();
                due("question " + i + " behind question " + k, first, questions[i]);
            }
            Bench.holds("the questions changed something", before.equals(all(x)));
        }
    }

    private static void toldFirst() {
        StrikeBench x = Bench.of(ofFirst(1, 2) + "turns a;");
        x.strike(0);
        due("strike: not in the row, and no turn", NO_SUCH, () -> x.strike(2));
        due("cost: not in the row, and no turn", NO_SUCH, () -> x.cost(2));
        due("juror: no such number, and no such what", NO_SUCH, () -> x.juror(2, 8));
        due("other: no such turn, and no such side", NO_SUCH, () -> x.other(2, 0));
        due("without: not in the row, and no such side", NO_SUCH, () -> x.without(2, 2));
        due("without: no such side, and struck", BAD_ARGUMENT, () -> x.without(2, 0));
        x.order(4, 0);
        due("once: no such what, and four turns", BAD_ARGUMENT, () -> x.once(5));
        due("only the first is counted: 0", 5, () -> x.status(0));
        due("only the first is counted: 1", 2, () -> x.status(1));
        due("only the first is counted: 2", 0, () -> x.status(2));
    }

    private static Bench.Call[] refusals(StrikeBench x) {
        return new Bench.Call[] {() -> x.text(21), () -> x.text(-1), () -> x.strike(6), () -> x.strike(1), () -> x.strike(5),
            () -> x.rule(0, 0), () -> x.rule(1, 4), () -> x.rule(2, 2), () -> x.rule(3, 0), () -> x.order(9, 0),
            () -> x.order(2, 4), () -> x.told(12), () -> x.juror(6, 0), () -> x.juror(0, 8), () -> x.seat(-1, true),
            () -> x.turn(3), () -> x.worth(2), () -> x.value(-1), () -> x.line(-1), () -> x.cost(6), () -> x.cost(5),
            () -> x.more(2, true), () -> x.other(0, 3), () -> x.other(2, 0), () -> x.without(0, 6), () -> x.without(2, 0),
            () -> x.without(0, 1), () -> x.plain(0, 4), () -> x.once(5), () -> x.count(3, 0)};
    }

    private static void throwingChangesNothing() {
        String before = all(inTheMiddle());
        int many = refusals(inTheMiddle()).length;
        for (int i = 0; i < many; i++) {
            StrikeBench x = inTheMiddle();
            long answer = Bench.answer(refusals(x)[i]);
            Bench.holds("call " + i + " was not refused", answer == NO_SUCH || answer == BAD_ARGUMENT || answer == BAD_STATE);
            Bench.holds("call " + i + " changed something", before.equals(all(x)));
            for (int kind = 0; kind < 3; kind++) {
                int of = kind;
                long mine = kind == 0 ? NO_SUCH : kind == 1 ? BAD_ARGUMENT : BAD_STATE;
                due("status(" + kind + ") behind call " + i, answer == mine ? 1 : 0, () -> x.status(of));
            }
        }
        StrikeBench end = inTheMiddle();
        end.order(0, 0);
        String atEnd = all(end);
        due("pass() with no turn", BAD_STATE, end::pass);
        due("cost of it", BAD_STATE, () -> end.cost(NONE));
        Bench.holds("they changed something", atEnd.equals(all(end)));
        StrikeBench four = inTheMiddle();
        four.order(4, 15);
        String ofFour = all(four);
        int refusedBefore = four.status(2);
        due("once() with four turns of a side", BAD_STATE, () -> four.once(0));
        due("is counted", refusedBefore + 1, () -> four.status(2));
        Bench.holds("it changed something", ofFour.equals(all(four)));
        four.undo();
        Bench.holds("not all is as it was", before.equals(all(four)));
    }
}
