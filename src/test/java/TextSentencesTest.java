/**
 * The first part of "Terms", sentence by sentence, at the edges that each names: who is told and within which bounds,
 * the TEXT, its FAULTS, who is EXCUSED, the ROW. The words ahead of each test are the document's.
 */
public final class TextSentencesTest {
    private static final int NONE = StrikeBench.NONE;
    private static final long NO_SUCH = Bench.NO_SUCH;
    /** Fifteen bytes. */
    private static final String ONE = "juror 1 2 20 0;";
    private static final String TALE = "tales 3 4 30 0;";

    /** Every word, sign and kind of number that a text can have, in a text without a fault; the first line is a juror. */
    private static final String[] ALL_PARTS = ("juror - 5 - 3 30 0 ; tales 9 - 9 40 3 ; seats 3 ; spare 1 ; turns a b b ; box ; "
            + "cause a not ( first < - 99 or gap = kin ) and second > 7 ; cause b age = 30 ; bench 1 = 1 ; grant 2 ;").split(" ");

    private TextSentencesTest() {
    }

    public static void main(String[] args) {
        whoIsTold();
        theText();
        theFaults();
        excusedAndRow();
        Bench.end();
    }

    private static void whoIsTold() {
        Bench.sentence("JURORS (10 at most, numbered from 0 on as told)", TextSentencesTest::tenJurors);
        Bench.sentence("each with a WORTH to side 0 and to side 1 (-50 to 50)", TextSentencesTest::worths);
        Bench.sentence("an AGE (18 to 99)", TextSentencesTest::ages);
        Bench.sentence("KIN (0 none, 1 of side 0, 2 of side 1, 3 of both)", TextSentencesTest::kin);
        Bench.sentence("SEATS (1 to 6; 2 without)", TextSentencesTest::seats);
        Bench.sentence("SPARE (0 to 3; 0 without)", TextSentencesTest::spare);
        Bench.sentence("TURNS: a row of sides, 0 to 8 of them (none without)", TextSentencesTest::turns);
        Bench.sentence("BOX or OPEN (OPEN without)", TextSentencesTest::boxOrOpen);
    }

    private static void theText() {
        Bench.sentence("A TEXT has up to 500 bytes", TextSentencesTest::upTo500Bytes);
        Bench.sentence("{ LINE \";\" }", TextSentencesTest::lines);
        Bench.sentence("\"juror\" Z Z N N (WORTH, WORTH, AGE, KIN)", TextSentencesTest::jurorLine);
        Bench.sentence("\"tales\" Z Z N N (one who fills; 4 at most)", TextSentencesTest::talesLine);
        Bench.sentence("\"seats\" N | \"spare\" N", TextSentencesTest::seatsAndSpareLines);
        Bench.sentence("\"turns\" { A } (8 at most)", TextSentencesTest::turnsLine);
        Bench.sentence("\"box\"", TextSentencesTest::boxLine);
        Bench.sentence("\"cause\" A C", TextSentencesTest::causeLine);
        Bench.sentence("\"bench\" C", TextSentencesTest::benchLine);
        Bench.sentence("\"grant\" N (0 to 9; 9 without)", TextSentencesTest::grantLine);
        Bench.sentence("\"seats\", \"spare\", \"turns\", \"box\", \"bench\", \"grant\" once each", TextSentencesTest::onceEach);
        Bench.sentence("\"cause\" once for each side", TextSentencesTest::causeOnceForEachSide);
        Bench.sentence("C: D { \"or\" D }.", TextSentencesTest::anyOf);
        Bench.sentence("D: P { \"and\" P }.", TextSentencesTest::eachOf);
        Bench.sentence("P: \"not\" P | \"(\" C \")\" | Q (\"<\" | \"=\" | \">\") Q.", TextSentencesTest::part);
        Bench.sentence("Q: Z | \"first\" | \"second\" | \"age\" | \"kin\" | \"gap\".", TextSentencesTest::quality);
        Bench.sentence("Z: N or \"-\" N.", TextSentencesTest::signedNumber);
        Bench.sentence("A: the letter a (side 0) or b (side 1), one byte, whatever stands behind it.", TextSentencesTest::sideLetter);
        Bench.sentence("N: digits, as many as stand there", TextSentencesTest::digits);
        Bench.sentence("words: small letters, as many as stand there", TextSentencesTest::words);
        Bench.sentence("blanks (32) may stand ahead of all words, A, numbers, signs, and at the end.", TextSentencesTest::blanks);
    }

    private static void theFaults() {
        Bench.sentence("FAULTS; of several the one whose first byte is least", TextSentencesTest::leastFirstByte);
        Bench.sentence("of one byte the first in this list", TextSentencesTest::firstInList);
        Bench.sentence("1 what can't stand there", TextSentencesTest::misplaced);
        Bench.sentence("at the length, if the text ends too early", TextSentencesTest::endsTooEarly);
        Bench.sentence("a second one of once, by its word", TextSentencesTest::secondByItsWord);
        Bench.sentence("of \"cause\" by its A", TextSentencesTest::secondCauseByItsSide);
        Bench.sentence("a ninth A of \"turns\"", TextSentencesTest::ninthTurn);
        Bench.sentence("2 a number that is none such", TextSentencesTest::noneSuch);
        Bench.sentence("a Z by its first byte", TextSentencesTest::signedByItsFirstByte);
        Bench.sentence("Z of a C: -99 to 99", TextSentencesTest::numbersOfConditions);
        Bench.sentence("3 an eleventh \"juror\"", TextSentencesTest::eleventhJuror);
        Bench.sentence("3 a fifth \"tales\" (by its word)", TextSentencesTest::fifthTales);
        Bench.sentence("4 a \"(\" or a \"not\" within four others of both", TextSentencesTest::withinFourOthers);
        Bench.sentence("(a \"not\" till its P ends)", TextSentencesTest::notTillItsPartEnds);
        Bench.sentence("If there is none: 5, at the length: no \"juror\".", TextSentencesTest::noJuror);
    }

    private static void excusedAndRow() {
        Bench.sentence("first, second: WORTH to side 0, to side 1; gap: first less second; C holds for a JUROR by these.",
                TextSentencesTest::holdsByThese);
        Bench.sentence("EXCUSED: JUROR by JUROR in order", TextSentencesTest::jurorByJuror);
        Bench.sentence("side 0's cause first, then side 1's", TextSentencesTest::sideByItsCause);
        Bench.sentence("whom that of a side has hold for, and \"bench\" too (if it is told)", TextSentencesTest::benchToo);
        Bench.sentence("till a side has been GRANTED so many as \"grant\" tells", TextSentencesTest::tillGranted);
        Bench.sentence("a JUROR EXCUSED by side 0 is not asked by side 1", TextSentencesTest::notAskedBySideOne);
        Bench.sentence("ROW: JURORS who are not EXCUSED, in order", TextSentencesTest::rowOfJurors);
        Bench.sentence("behind them TALES in order, as many as there were EXCUSED", TextSentencesTest::asManyAsExcused);
        Bench.sentence("(as far as there are", TextSentencesTest::asFarAsThereAre);
        Bench.sentence("these are not asked", TextSentencesTest::talesAreNotAsked);
        Bench.sentence("and are numbered on behind JURORS", TextSentencesTest::numberedOn);
    }

    private static void due(String what, long want, Bench.Call call) {
        Bench.due(what, want, call);
    }

    private static void reads(String text, int row) {
        Bench.reads(text, row);
    }

    private static void fails(String text, int kind, int place) {
        Bench.fails(text, kind, place);
    }

    private static void tells(String text, int what, int want) {
        due("told(" + what + ") of {" + text + "}", want, () -> Bench.of(text).told(what));
    }

    /** One more with these four numbers, be he told as a juror or as one who fills. */
    private static void readsPerson(String numbers, int what, int want) {
        for (String word : new String[] {"juror ", "tales "}) {
            StrikeBench x = Bench.of(ONE + word + numbers + ";");
            due("juror(1, " + what + ") of " + word + numbers, want, () -> x.juror(1, what));
        }
    }

    private static void failsPerson(String numbers, int kind, int offset) {
        for (String word : new String[] {"juror ", "tales "}) {
            fails(ONE + word + numbers + ";", kind, ONE.length() + word.length() + offset);
        }
    }

    /** Whether a condition holds for a juror of first 5, second -3, age 30, kin 1. */
    private static void holds(String condition, boolean isSo) {
        holdsFor("juror 5 -3 30 1;", condition, isSo);
    }

    private static void holdsFor(String juror, String condition, boolean isSo) {
        due(condition + " for " + juror, isSo ? 0 : NONE, () -> Bench.of(juror + "cause a " + condition + ";").juror(0, 4));
    }

    private static void tenJurors() {
        StringBuilder ten = new StringBuilder();
        for (int i = 0; i < 10; i++) {
            ten.append("juror ").append(10 - i).append(" 0 20 0;");
        }
        StrikeBench x = Bench.of(ten.toString());
        due("ten", 10, () -> x.told(0));
        for (int i = 0; i < 10; i++) {
            int number = i;
            due("number " + i + " as told", 10 - i, () -> x.juror(number, 0));
        }
        due("no number 10", NO_SUCH, () -> x.juror(10, 0));
        fails(ten + "juror 0 0 20 0;", 3, ten.length());
        StrikeBench one = Bench.of(ONE);
        due("one alone is 0", 1, () -> one.juror(0, 0));
        due("and no 1", NO_SUCH, () -> one.juror(1, 0));
    }

    private static void worths() {
        readsPerson("-50 50 20 0", 0, -50);
        readsPerson("-50 50 20 0", 1, 50);
        readsPerson("50 -50 20 0", 0, 50);
        readsPerson("50 -50 20 0", 1, -50);
        failsPerson("-51 0 20 0", 2, 0);
        failsPerson("51 0 20 0", 2, 0);
        failsPerson("0 -51 20 0", 2, 2);
        failsPerson("0 51 20 0", 2, 2);
    }

    private static void ages() {
        readsPerson("0 0 18 0", 2, 18);
        readsPerson("0 0 99 0", 2, 99);
        failsPerson("0 0 17 0", 2, 4);
        failsPerson("0 0 100 0", 2, 4);
        failsPerson("0 0 0 0", 2, 4);
    }

    private static void kin() {
        int[][] counts = {{0, 0}, {1, 0}, {0, 1}, {1, 1}};
        for (int kin = 0; kin <= 3; kin++) {
            readsPerson("0 0 20 " + kin, 3, kin);
            StrikeBench x = Bench.of("juror 0 0 20 " + kin + ";");
            due("of side 0 with " + kin, counts[kin][0], () -> x.count(0, 0));
            due("of side 1 with " + kin, counts[kin][1], () -> x.count(1, 0));
        }
        failsPerson("0 0 20 4", 2, 7);
        failsPerson("0 0 20 10", 2, 7);
    }

    private static void seats() {
        for (int seats = 1; seats <= 6; seats++) {
            tells(ONE + "seats " + seats + ";", 4, seats);
        }
        tells(ONE, 4, 2);
        fails("seats 0;", 2, 6);
        fails("seats 7;", 2, 6);
    }

    private static void spare() {
        for (int spare = 0; spare <= 3; spare++) {
            tells(ONE + "spare " + spare + ";", 5, spare);
        }
        tells(ONE, 5, 0);
        fails("spare 4;", 2, 6);
    }

    private static void turns() {
        tells(ONE, 7, 0);
        tells(ONE, 9, NONE);
        tells(ONE + "turns;", 7, 0);
        tells(ONE + "turns b;", 7, 1);
        StrikeBench x = Bench.of(ONE + "turns abbabaab;");
        due("eight", 8, () -> x.told(7));
        int[] sides = {0, 1, 1, 0, 1, 0, 0, 1};
        for (int i = 0; i < 8; i++) {
            int at = i;
            due("turn " + i, sides[i], () -> x.turn(at));
        }
        fails(ONE + "turns abbabaaba;", 1, ONE.length() + 14);
    }

    private static void boxOrOpen() {
        tells(ONE, 6, 0);
        tells(ONE + "box;", 6, 1);
        String three = ONE.repeat(3) + "seats 1;turns a;";
        due("open without: behind the box", 0, () -> Bench.of(three).strike(2));
        due("with box: in it alone", Bench.BAD_STATE, () -> Bench.of(three + "box;").strike(2));
    }

    private static void upTo500Bytes() {
        reads(" ".repeat(485) + ONE, 1);
        fails(" ".repeat(484) + ONE + "x", 1, 499);
        fails(" ".repeat(486) + ONE.substring(0, 14), 1, 500);
        fails(" ".repeat(500), 5, 500);
        // Whatever stands last: a word, a number, a letter, a sign.
        fails(" ".repeat(497) + "box", 1, 500);
        fails(" ".repeat(494) + "seats2", 1, 500);
        fails(" ".repeat(493) + "turns a", 1, 500);
        fails(" ".repeat(494) + "bench(", 1, 500);
        fails(" ".repeat(493) + "bench 1", 1, 500);
        fails(" ".repeat(490) + "bench kin=", 1, 500);
        fails(" ".repeat(494) + "bench-", 1, 500);
        StrikeBench x = new StrikeBench();
        Bench.feed(x, Bench.bytes(" ".repeat(480)));
        x.feed(0x6a75726f, 0x72203120, 0x32203230, 0x20303b20, 0x20202020);
        due("so many can be told", 1, () -> x.text(500));
    }

    private static void lines() {
        fails("", 5, 0);
        reads(ONE, 1);
        reads(ONE + ONE, 2);
        reads("grant 1;bench 1=1;box;turns;spare 1;seats 1;" + TALE + ONE + "cause a 1=1;", 1);
        fails("juror 1 2 20 0", 1, 14);
        fails("juror 1 2 20 0 " + ONE, 1, 15);
        fails(";", 1, 0);
        fails(ONE + ";", 1, 15);
        fails(ONE + " ; " + ONE, 1, 16);
        fails(ONE + "5;", 1, 15);
    }

    private static void jurorLine() {
        StrikeBench x = Bench.of("juror 1 -2 23 2;");
        int[] due = {1, -2, 23, 2};
        for (int what = 0; what < 4; what++) {
            int of = what;
            due("juror(0, " + what + ")", due[what], () -> x.juror(0, of));
        }
        fails("juror;", 1, 5);
        fails("juror 1;", 1, 7);
        fails("juror 1 -2;", 1, 10);
        fails("juror 1 -2 23;", 1, 13);
        fails("juror 1 -2 23 2 0;", 1, 16);
        fails("juror 1 -2 -23 2;", 1, 11);
        fails("juror 1 -2 23 -2;", 1, 14);
        fails("juror a 2 23 2;", 1, 6);
    }

    private static void talesLine() {
        StrikeBench x = Bench.of(ONE + "tales -1 2 24 3;");
        int[] due = {-1, 2, 24, 3};
        for (int what = 0; what < 4; what++) {
            int of = what;
            due("juror(1, " + what + ")", due[what], () -> x.juror(1, of));
        }
        due("one fills in the place of one", 1, () -> Bench.of(ONE + TALE + "cause a 1=1;").told(3));
        tells(ONE + TALE.repeat(4), 1, 4);
        fails(ONE + TALE.repeat(5), 3, 75);
        tells(ONE, 1, 0);
        fails("tales;", 1, 5);
        fails("tales 1 2 20;", 1, 12);
        fails("tales 1 2 20 0 0;", 1, 15);
        fails("tales 1 2 -20 0;", 1, 10);
    }

    private static void seatsAndSpareLines() {
        for (String word : new String[] {"seats", "spare"}) {
            reads(ONE + word + " 3;", 1);
            reads(ONE + word + "3;", 1);
            fails(word + ";", 1, 5);
            fails(word + " 1 2;", 1, 8);
            fails(word + " -1;", 1, 6);
            fails(word + " a;", 1, 6);
        }
        tells(ONE + "seats 3;", 5, 0);
        tells(ONE + "spare 3;", 4, 2);
    }

    private static void turnsLine() {
        reads(ONE + "turns;", 1);
        reads(ONE + "turns ;", 1);
        reads(ONE + "turns aaaaaaaa;", 1);
        reads(ONE + "turns a a a a b b b b;", 1);
        fails("turns aaaaaaaaa;", 1, 14);
        fails("turns 2;", 1, 6);
        fails("turns a,b;", 1, 7);
    }

    private static void boxLine() {
        reads(ONE + "box;", 1);
        fails("box 1;", 1, 4);
        fails("box a;", 1, 4);
        fails("boxa;", 1, 0);
    }

    private static void causeLine() {
        reads(ONE + "cause a 1=2;", 1);
        reads(ONE + "cause b 1=1;", 0);
        fails("cause;", 1, 5);
        fails("cause a;", 1, 7);
        fails("cause 1=1;", 1, 6);
        fails("cause c 1=1;", 1, 6);
        fails("cause ab 1=1;", 1, 7);
        fails("cause a 1=1 1=1;", 1, 12);
    }

    private static void benchLine() {
        reads(ONE + "bench 1=2;", 1);
        fails("bench;", 1, 5);
        fails("bench a 1=1;", 1, 6);
        fails("bench 1=1 1=1;", 1, 10);
    }

    private static void grantLine() {
        String ten = ONE.repeat(10) + "cause a 1=1;";
        tells(ten + "grant 0;", 2, 0);
        tells(ten + "grant 1;", 2, 1);
        tells(ten + "grant 9;", 2, 9);
        tells(ten, 2, 9);
        fails("grant 10;", 2, 6);
        fails("grant;", 1, 5);
        fails("grant -1;", 1, 6);
        fails("grant 1 1;", 1, 8);
    }

    private static void onceEach() {
        for (String line : new String[] {"seats 2;", "spare 0;", "turns;", "box;", "bench 1=1;", "grant 9;"}) {
            reads(ONE + line, 1);
            fails(line + line, 1, line.length());
            fails(line + ONE + line, 1, line.length() + ONE.length());
        }
        reads(ONE + ONE + TALE + TALE + "seats 2;spare 0;turns;box;bench 1=1;grant 9;", 2);
    }

    private static void causeOnceForEachSide() {
        reads(ONE + "cause a 1=2;cause b 1=2;", 1);
        reads(ONE + "cause b 1=2;cause a 1=2;", 1);
        fails("cause a 1=2;cause a 1=2;", 1, 18);
        fails("cause b 1=2;cause b 1=2;", 1, 18);
        fails("cause a 1=2;cause b 1=2;cause a 1=2;", 1, 30);
        fails("cause a 1=2;cause b 1=2;cause b 1=2;", 1, 30);
    }

    private static void anyOf() {
        holds("1=1", true);
        holds("1=2", false);
        holds("1=2 or 1=1", true);
        holds("1=1 or 1=2", true);
        holds("1=1 or 1=1", true);
        holds("1=2 or 1=2", false);
        holds("1=2 or 1=2 or 1=2 or 1=1", true);
        holds("1=1 or 1=1 and 1=2", true);
        fails("bench or 1=1;", 1, 6);
        fails("bench 1=1 or;", 1, 12);
        fails("bench 1=1 or or 1=1;", 1, 13);
        fails("bench 1=1 orr 1=1;", 1, 10);
        // As many as a text has room for, the last one alone being so: all of them are asked.
        StringBuilder most = new StringBuilder("juror 1 2 20 0;cause a 0=1");
        while (most.length() < 490) {
            most.append("or0=1");
        }
        reads(most + ";", 1);
        reads(most + "or1=1;", 0);
    }

    private static void eachOf() {
        holds("1=1 and 1=1", true);
        holds("1=1 and 1=2", false);
        holds("1=2 and 1=1", false);
        holds("1=2 and 1=2", false);
        holds("1=1 and 1=1 and 1=1 and 1=2", false);
        holds("1=2 and 1=1 or 1=1", true);
        fails("bench and 1=1;", 1, 6);
        fails("bench 1=1 and;", 1, 13);
        fails("bench 1=1 and and 1=1;", 1, 14);
        fails("bench 1=1 and or 1=1;", 1, 14);
        StringBuilder most = new StringBuilder("juror 1 2 20 0;cause a 1=1");
        while (most.length() < 487) {
            most.append("and1=1");
        }
        reads(most + ";", 0);
        reads(most + "and1=2;", 1);
    }

    private static void part() {
        holds("not 1=2", true);
        holds("not 1=1", false);
        holds("not not 1=1", true);
        holds("not 1=1 or 1=1", true);
        holds("not 1=2 and 1=2", false);
        holds("not (1=2 and 1=2)", true);
        holds("(1=2)", false);
        holds("((1=1))", true);
        holds("1=2 and (1=1 or 1=1)", false);
        holds("4<5", true);
        holds("5<5", false);
        holds("6<5", false);
        holds("4=5", false);
        holds("5=5", true);
        holds("6=5", false);
        holds("4>5", false);
        holds("5>5", false);
        holds("6>5", true);
        fails("bench not;", 1, 9);
        fails("bench ();", 1, 7);
        fails("bench (1=1;", 1, 10);
        fails("bench 1=1);", 1, 9);
        fails("bench 1;", 1, 7);
        fails("bench 1=;", 1, 8);
        fails("bench =1;", 1, 6);
        fails("bench 1<=1;", 1, 8);
        fails("bench 1=1=1;", 1, 9);
        fails("bench (1)=1;", 1, 8);
    }

    private static void quality() {
        holds("first=5", true);
        holds("second=-3", true);
        holds("age=30", true);
        holds("kin=1", true);
        holds("gap=8", true);
        holds("5=first", true);
        holds("first=second", false);
        holds("age>kin", true);
        fails("bench third=1;", 1, 6);
        fails("bench ages=1;", 1, 6);
        fails("bench 1=ag;", 1, 8);
        fails("bench 1=a;", 1, 8);
        fails("bench 1=juror;", 1, 8);
    }

    private static void signedNumber() {
        readsPerson("-0 0 20 0", 0, 0);
        readsPerson("- 7 -  7 20 0", 0, -7);
        readsPerson("- 7 -  7 20 0", 1, -7);
        readsPerson("8-7 20 0", 1, -7);
        holds("-1<0", true);
        holds("second=-3", true);
        holds("-0=0", true);
        failsPerson("--7 0 20 0", 1, 1);
        failsPerson("- -7 0 20 0", 1, 2);
        failsPerson("+7 0 20 0", 1, 0);
        failsPerson("- 0 0", 1, 5);
        fails("bench -first=1;", 1, 7);
        fails("bench -(1=1);", 1, 7);
        fails("juror -;", 1, 7);
    }

    private static void sideLetter() {
        StrikeBench x = Bench.of(ONE + "turns ab;");
        due("a is side 0", 0, () -> x.turn(0));
        due("b is side 1", 1, () -> x.turn(1));
        for (String sign : new String[] {"c", "`", "A", "B", "0", "1"}) {
            fails("turns " + sign + ";", 1, 6);
            fails("cause " + sign + " 1=1;", 1, 6);
        }
        // One byte: a word or a number can stand close behind it.
        due("a word behind a", 0, () -> Bench.of("juror 1 2 20 0;cause aage=20;").juror(0, 4));
        due("a word behind b", 1, () -> Bench.of("juror 1 2 20 0;cause bage=20;").juror(0, 4));
        due("a number behind b", 1, () -> Bench.of("juror 1 2 20 0;cause b1=1;").juror(0, 4));
        due("not behind a", NONE, () -> Bench.of("juror 1 2 20 0;cause anot 1=1;").juror(0, 4));
        fails("turns box;", 1, 7);
        fails("turns abc;", 1, 8);
        fails("turns a1;", 1, 7);
        fails("turnsab;", 1, 0);
        fails("causea 1=1;", 1, 0);
    }

    private static void digits() {
        tells(ONE + "seats 0000000000000000000000000000000005;", 4, 5);
        tells(ONE + "seats " + "0".repeat(470) + "6;", 4, 6);
        readsPerson("-00050 00000000000000000050 020 03", 0, -50);
        readsPerson("-00050 00000000000000000050 020 03", 1, 50);
        tells(ONE + "seats 2 ;", 4, 2);
        fails("seats 12;", 2, 6);
        fails("spare 1 2;", 1, 8);
        // 2 to the 32nd and 2 to the 64th and a little: none of them comes round to a small one.
        fails("seats 4294967298;", 2, 6);
        fails("seats 18446744073709551618;", 2, 6);
        fails("seats 2147483650;", 2, 6);
        failsPerson("-4294967296 0 20 0", 2, 0);
        fails("grant 4294967296;", 2, 6);
        fails("bench age=8589934592;", 2, 10);
        fails("seats " + "9".repeat(490) + ";", 2, 6);
        fails("seats 1" + "0".repeat(490) + ";", 2, 6);
        // 47 and 58 stand next to the digits.
        fails("seats 2/;", 1, 7);
        fails("seats 2:;", 1, 7);
        fails("seats /2;", 1, 6);
        fails("seats :2;", 1, 6);
        reads("juror 0 9 90 0;", 1);
    }

    private static void words() {
        reads("juror1 2 20 0;", 1);
        fails("jurorx 1 2 20 0;", 1, 0);
        fails("juro 1 2 20 0;", 1, 0);
        fails("juror z 1 2 20 0;", 1, 6);
        fails("Juror 1 2 20 0;", 1, 0);
        fails("juroR 1 2 20 0;", 1, 0);
        fails("ju ror 1 2 20 0;", 1, 0);
        fails("boxz;", 1, 0);
        fails("boxa;", 1, 0);
        // 96 and 123 stand next to the small letters: no part of a word.
        fails("box`;", 1, 3);
        fails("box{;", 1, 3);
        fails("boxB;", 1, 3);
        fails("bench notage=1;", 1, 6);
        fails("bench agefirst=1;", 1, 6);
        fails("bench 1=1orage=1;", 1, 9);
        reads(ONE + "bench 1=1or age=1and kin=1;", 1);
        fails("seatss 2;", 1, 0);
        fails("x;", 1, 0);
    }

    private static String joined(int from, int to) {
        StringBuilder text = new StringBuilder();
        for (int i = from; i < to; i++) {
            text.append(i == from ? "" : " ").append(ALL_PARTS[i]);
        }
        return text.toString();
    }

    private static void blanks() {
        int parts = ALL_PARTS.length;
        reads(joined(0, parts), 1);
        reads("juror-5-3 30 0;tales9-9 40 3;seats3;spare1;turns abb;box;"
                + "cause anot(first<-99or gap=kin)and second>7;cause bage=30;bench1=1;grant2;", 1);
        for (int i = 0; i < parts; i++) {
            String ahead = joined(0, i) + (i == 0 ? "" : " ");
            reads(ahead + "  " + joined(i, parts), 1);
            for (char other : new char[] {9, 10, 13, 31, 33, 0, 160, 255}) {
                fails(ahead + other + joined(i, parts), 1, ahead.length());
            }
        }
        reads(joined(0, parts) + "   ", 1);
        fails(joined(0, parts) + "\t", 1, joined(0, parts).length());
        fails(joined(0, parts) + " \0", 1, joined(0, parts).length() + 1);
        fails("   ", 5, 3);
    }

    private static void leastFirstByte() {
        fails("seats 9;spare 9;", 2, 6);
        fails("box;box;seats 9;", 1, 4);
        fails("seats 9;box;box;", 2, 6);
        fails("seats 9", 2, 6);
        fails("seats 9 9;", 2, 6);
        fails("seats 2 9;", 1, 8);
        fails(ONE.repeat(10) + "juror 99 2 20 0;", 3, 150);
        fails(ONE.repeat(9) + "juror 99 2 20 0;juror 1 2 20 0;", 2, 141);
        fails(TALE.repeat(4) + "box;tales 3;box;", 3, 64);
        fails("bench (((((100=1;", 4, 10);
        fails("bench ((((100=1 and (1=1;", 2, 10);
        fails("bench ((((1=1 and (100=1;", 4, 18);
        fails("bench ((((1 and (100=1;", 1, 12);
        fails("juror 51 51 17 4;", 2, 6);
        fails("juror 50 51 17 4;", 2, 9);
        fails("juror 50 50 17 4;", 2, 12);
        fails("juror 50 50 18 4;", 2, 15);
        fails("box", 1, 3);
        fails("seats 9;", 2, 6);
    }

    private static void firstInList() {
        // A number that is none such, where none can stand.
        fails("box 100;", 1, 4);
        fails("100;", 1, 0);
        fails("turns 100;", 1, 6);
        fails("juror 1 2 20 0 100;", 1, 15);
        fails("bench 1=1 100;", 1, 10);
        // An eleventh juror and a fifth who fills, where none of them can stand.
        fails(ONE.repeat(10) + "box juror 1 2 20 0;", 1, 154);
        fails(TALE.repeat(4) + "box tales 1 2 20 0;", 1, 64);
        // A "(" and a "not" within four others, where they can't stand.
        fails("bench ((((1=(1=1;", 1, 12);
        fails("bench ((((1=not 1=1;", 1, 12);
        fails("bench ((((1=1(1=1;", 1, 13);
        fails("bench ((((1=1 not 1=1;", 1, 14);
        // At the length an end that is too early comes ahead of there being no juror.
        fails("box", 1, 3);
        fails("turns", 1, 5);
    }

    private static void misplaced() {
        fails("?", 1, 0);
        fails("  ?", 1, 2);
        fails("judge;", 1, 0);
        fails("a;", 1, 0);
        fails("first=1;", 1, 0);
        fails("(1=1);", 1, 0);
        fails("juror 1 ; 20 0;", 1, 8);
        fails("juror 1 two 20 0;", 1, 8);
        fails("seats box;", 1, 6);
        fails("turns a box;", 1, 9);
        fails("cause a bench 1=1;", 1, 8);
        fails("cause a 1~1;", 1, 9);
        fails("bench 1=1,1=1;", 1, 9);
        fails("bench (1=1 ;", 1, 11);
        fails("\u00ff", 1, 0);
        // That much is said by the answer, too.
        due("less 10", -9, () -> Bench.tell(new StrikeBench(), "?"));
    }

    private static void endsTooEarly() {
        for (int parts = 1; parts < ALL_PARTS.length; parts++) {
            String text = joined(0, parts);
            if (!ALL_PARTS[parts - 1].equals(";")) {
                fails(text, 1, text.length());
                fails(text + "   ", 1, text.length() + 3);
            } else {
                reads(text, 1);
            }
        }
        // Here it does not end too early: what stands last can't stand there.
        fails("jur", 1, 0);
        fails("bench 1=1 o", 1, 10);
        fails("bench fir", 1, 6);
    }

    private static void secondByItsWord() {
        fails("seats 2;  seats 2;", 1, 10);
        fails("spare 2; spare 2;", 1, 9);
        fails("turns ab;turns ba;", 1, 9);
        fails("box;   box;", 1, 7);
        fails("bench 1=1;bench 1=1;", 1, 10);
        fails("grant 2;grant 2;", 1, 8);
        // By its word, whatever comes behind it.
        fails("seats 2;seats 9;", 1, 8);
        fails("grant 2;grant", 1, 8);
        fails("bench 1=1;bench (((((1=1;", 1, 10);
        fails("seats 2;seat 2;", 1, 8);
    }

    private static void secondCauseByItsSide() {
        fails("cause a 1=1;cause   a 1=1;", 1, 20);
        fails("cause b 1=1;cause b 1=1;", 1, 18);
        fails("cause a 1=1;cause a 100=1;", 1, 18);
        fails("cause a 1=1;cause a", 1, 18);
        fails("cause a 1=1;cause", 1, 17);
        fails("cause a 1=1;cause c", 1, 18);
    }

    private static void ninthTurn() {
        fails("turns aaaaaaaaa;", 1, 14);
        fails("turns bbbbbbbbb;", 1, 14);
        fails("turns a b a b a b a b  a;", 1, 23);
        fails("turns aaaaaaaabc;", 1, 14);
        reads(ONE + "turns bbbbbbbb;", 1);
    }

    private static void noneSuch() {
        fails("juror 51 0 20 0;", 2, 6);
        fails("juror 0 0 17 0;", 2, 10);
        fails("juror 0 0 20 4;", 2, 13);
        fails("tales 0 51 20 0;", 2, 8);
        fails("seats 0;", 2, 6);
        fails("seats 7;", 2, 6);
        fails("spare 4;", 2, 6);
        fails("grant 10;", 2, 6);
        fails("bench 1=100;", 2, 8);
        // By its first byte, noughts ahead of it and all.
        fails("seats   0007;", 2, 8);
        fails("juror 0 0   017 0;", 2, 12);
        due("less 10", -8, () -> Bench.tell(new StrikeBench(), "seats 7;"));
    }

    private static void signedByItsFirstByte() {
        fails("juror -51 0 20 0;", 2, 6);
        fails("juror   -   51 0 20 0;", 2, 8);
        fails("juror 0 - 51 20 0;", 2, 8);
        fails("bench 1=- 100;", 2, 8);
        fails("bench - 100=1;", 2, 6);
        fails("juror  51 0 20 0;", 2, 7);
    }

    private static void numbersOfConditions() {
        holds("99=99", true);
        holds("-99=-99", true);
        holds("-99<99", true);
        holds("first<99 and first>-99", true);
        fails("bench 100=first;", 2, 6);
        fails("bench first=100;", 2, 12);
        fails("bench -100=first;", 2, 6);
        fails("bench first=-100;", 2, 12);
        fails("cause a age<100;", 2, 12);
        // What stands for a word inside must be no number that can be told: 100 to 104 are none.
        for (int number = 100; number < 110; number++) {
            fails("bench 1=" + number + ";", 2, 8);
        }
    }

    private static void eleventhJuror() {
        reads(ONE.repeat(10), 10);
        fails(ONE.repeat(11), 3, 150);
        fails(ONE.repeat(10) + "  juror", 3, 152);
        fails(ONE.repeat(10) + "juror x", 3, 150);
        fails(ONE.repeat(10) + "jurorx", 1, 150);
        // Those who fill do not count with them.
        reads(ONE.repeat(10) + TALE.repeat(4), 10);
        fails(TALE.repeat(4) + ONE.repeat(11), 3, 210);
    }

    private static void fifthTales() {
        reads(ONE + TALE.repeat(4), 1);
        fails(TALE.repeat(5), 3, 60);
        fails(TALE.repeat(4) + "  tales", 3, 62);
        fails(TALE.repeat(4) + "tales 99 1 20 0;", 3, 60);
        fails(ONE.repeat(10) + TALE.repeat(5), 3, 210);
    }

    private static void withinFourOthers() {
        reads(ONE + "bench ((((1=1))));", 1);
        fails("bench (((((1=1)))));", 4, 10);
        reads(ONE + "bench not not not not 1=1;", 1);
        fails("bench not not not not not 1=1;", 4, 22);
        reads(ONE + "bench not(not(1=1));", 1);
        fails("bench not(not((1=1)));", 4, 14);
        fails("bench not(not(not 1=1));", 4, 14);
        fails("bench (not(not (1=1)));", 4, 15);
        fails("bench ((not(not 1=1)));", 4, 12);
        // As many as one likes side by side.
        reads(ONE + "bench (1=1)and(1=1)and(1=1)and(1=1)and(1=1)and(1=1);", 1);
        reads(ONE + "bench ((((1=1))))or((((1=1))))and((((1=1))));", 1);
        fails("bench ((((1=1))))or((((1=1))))and(((((1=1)))));", 4, 37);
        // Each condition from none on.
        reads(ONE + "bench ((((1=1))));cause a((((1=2))));cause b((((1=2))));", 1);
        // By its first byte, be it whole or not.
        fails("bench ((((   (", 4, 13);
        fails("bench ((((not", 4, 10);
        fails("bench ((((no 1=1", 1, 10);
    }

    private static void notTillItsPartEnds() {
        reads(ONE + "bench not 1=1 and not 1=1 and not 1=1 and not 1=1 and not 1=1;", 1);
        reads(ONE + "bench not 1=1 or((((1=1))));", 1);
        fails("bench not((((1=1))));", 4, 12);
        // The first not ends with what is in its bracket, the second with its 1=1.
        reads(ONE + "bench not(1=1)and((((1=1))));", 1);
        reads(ONE + "bench (not 1=1 and(((1=1))));", 1);
        fails("bench (not(((1=1))));", 4, 12);
        reads(ONE + "bench not not 1=1 and not not not not 1=1;", 1);
        fails("bench not not 1=1 and not not not not not 1=1;", 4, 38);
        // Not only of a bracket, but of a bracket's whole inside.
        fails("bench not(1=1 or(1=1 or(1=1 or(1=1))));", 4, 30);
    }

    private static void noJuror() {
        fails("", 5, 0);
        fails(" ", 5, 1);
        fails("box;", 5, 4);
        fails("box;  ", 5, 6);
        fails(TALE, 5, 15);
        fails("seats 2;spare 1;turns ab;box;cause a 1=1;cause b 1=1;bench 1=1;grant 3;", 5, 71);
        reads("box;" + ONE, 1);
        // Only if there is none of the others.
        fails("box;box;", 1, 4);
        fails("grant 10;", 2, 6);
        fails(TALE.repeat(5), 3, 60);
        fails("bench (((((1=1)))));", 4, 10);
        due("less 10", -5, () -> Bench.tell(new StrikeBench(), "box;"));
    }

    private static void holdsByThese() {
        String far = "juror 50 -50 18 0;";
        String near = "juror -50 50 99 3;";
        holdsFor(far, "first=50", true);
        holdsFor(far, "second=-50", true);
        holdsFor(near, "first=-50", true);
        holdsFor(near, "second=50", true);
        // gap goes from -100 to 100, beyond what a number of a condition can be.
        holdsFor(far, "gap>99", true);
        holdsFor(far, "gap=99", false);
        holdsFor(near, "gap<-99", true);
        holdsFor(near, "gap=-99", false);
        holdsFor("juror 3 3 20 0;", "gap=0", true);
        holdsFor(far, "age=18", true);
        holdsFor(near, "age=99", true);
        holdsFor(far, "kin=0", true);
        holdsFor(near, "kin=3", true);
        holdsFor(near, "kin=1", false);
        holdsFor(near, "kin>2", true);
    }

    private static void jurorByJuror() {
        StrikeBench x = Bench.of("juror 1 0 20 0;juror 2 0 20 0;juror 3 0 20 0;juror 4 0 20 0;cause a first>1;grant 2;");
        int[] due = {NONE, 0, 0, NONE};
        for (int i = 0; i < 4; i++) {
            int juror = i;
            due("the first ones for whom it holds: " + i, due[i], () -> x.juror(juror, 4));
        }
        due("two", 2, () -> x.told(2));
    }

    private static void sideByItsCause() {
        StrikeBench x = Bench.of("juror 1 0 20 0;juror 2 0 20 0;juror 3 0 20 0;cause b first>1;cause a first<3;");
        int[] due = {0, 0, 1};
        for (int i = 0; i < 3; i++) {
            int juror = i;
            due("by which side " + i, due[i], () -> x.juror(juror, 4));
        }
        // Juror by juror: when side 0 has had its one, side 1 is asked about the next.
        StrikeBench y = Bench.of(ONE.repeat(3) + "cause a 1=1;cause b 1=1;grant 1;");
        int[] byTurns = {0, 1, NONE};
        for (int i = 0; i < 3; i++) {
            int juror = i;
            due("one each: " + i, byTurns[i], () -> y.juror(juror, 4));
        }
        due("no cause, nobody", 0, () -> Bench.of(ONE).told(2));
    }

    private static void benchToo() {
        String two = "juror 1 0 20 0;juror 2 0 40 0;";
        tells(two + "cause a 1=1;", 2, 2);
        tells(two + "cause a 1=1;bench 1=1;", 2, 2);
        tells(two + "cause a 1=1;bench 1=2;", 2, 0);
        tells(two + "cause b 1=1;bench 1=2;", 2, 0);
        tells(two + "bench 1=1;", 2, 0);
        tells(two + "bench age>30;cause b 1=1;", 2, 1);
        due("not him", NONE, () -> Bench.of(two + "bench age>30;cause b 1=1;").juror(0, 4));
        due("but him", 1, () -> Bench.of(two + "bench age>30;cause b 1=1;").juror(1, 4));
        // Whom the bench does not excuse for side 0 it may not for side 1 either.
        tells(two + "cause a 1=1;cause b 1=1;bench age>30;", 2, 1);
    }

    private static void tillGranted() {
        String four = "juror 1 0 20 0;juror 2 0 20 0;juror 3 0 40 0;juror 4 0 40 0;";
        tells(four + "cause a 1=1;grant 0;", 2, 0);
        tells(four + "cause b 1=1;grant 0;", 2, 0);
        tells(four + "cause a 1=1;grant 3;", 2, 3);
        tells(four + "cause b 1=1;grant 3;", 2, 3);
        tells(four + "cause a 1=1;grant 4;", 2, 4);
        tells(four + "cause a 1=1;grant 9;", 2, 4);
        // Each side so many.
        tells(four + "cause a first<3;cause b first>2;grant 2;", 2, 4);
        tells(four + "cause a first<3;cause b first>2;grant 1;", 2, 2);
        // Whom the bench keeps is not granted, and takes none of them up.
        due("the third", 0, () -> Bench.of(four + "cause a 1=1;bench age>30;grant 1;").juror(2, 4));
        due("not the fourth", NONE, () -> Bench.of(four + "cause a 1=1;bench age>30;grant 1;").juror(3, 4));
        String ten = ONE.repeat(10);
        tells(ten + "cause a 1=1;", 2, 9);
        tells(ten + "cause a 1=1;cause b 1=1;", 2, 10);
        due("the tenth by side 1", 1, () -> Bench.of(ten + "cause a 1=1;cause b 1=1;").juror(9, 4));
    }

    private static void notAskedBySideOne() {
        StrikeBench x = Bench.of("juror 1 0 20 0;juror 2 0 20 0;juror 3 0 20 0;cause a first=1;cause b 1=1;grant 1;");
        due("by side 0", 0, () -> x.juror(0, 4));
        due("so side 1 still has its one", 1, () -> x.juror(1, 4));
        due("and no more", NONE, () -> x.juror(2, 4));
        due("two in all", 2, () -> x.told(2));
    }

    private static void rowOfJurors() {
        StrikeBench x = Bench.of("juror 5 0 20 1;juror 4 0 20 0;juror 3 0 20 1;juror 2 0 20 0;cause a kin=1;");
        due("two", 2, () -> x.told(3));
        int[] due = {NONE, 0, NONE, 1};
        for (int i = 0; i < 4; i++) {
            int juror = i;
            due("place of " + i, due[i], () -> x.juror(juror, 6));
        }
        reads(ONE + "cause a 1=1;", 0);
        reads(ONE.repeat(10), 10);
    }

    private static void asManyAsExcused() {
        String two = "juror 5 0 20 1;juror 4 0 20 0;tales 1 1 20 0;tales 2 2 20 0;";
        StrikeBench none = Bench.of(two);
        due("none for none", NONE, () -> none.juror(2, 6));
        due("the row as told", 2, () -> none.told(3));
        StrikeBench one = Bench.of(two + "cause a kin=1;");
        due("the juror first", 0, () -> one.juror(1, 6));
        due("one for one", 1, () -> one.juror(2, 6));
        due("not the second", NONE, () -> one.juror(3, 6));
        StrikeBench both = Bench.of(two + "cause a 1=1;");
        due("in order", 0, () -> both.juror(2, 6));
        due("the second behind", 1, () -> both.juror(3, 6));
        due("ten again", 10, () -> Bench.of(ONE.repeat(10) + TALE.repeat(4) + "cause a 1=1;grant 4;").told(3));
    }

    private static void asFarAsThereAre() {
        due("one of three", 1, () -> Bench.of(ONE.repeat(3) + TALE + "cause a 1=1;").told(3));
        due("four of ten", 4, () -> Bench.of(ONE.repeat(10) + TALE.repeat(4) + "cause a 1=1;cause b 1=1;").told(3));
        due("none at all", 0, () -> Bench.of(ONE.repeat(3) + "cause a 1=1;").told(3));
    }

    private static void talesAreNotAsked() {
        StrikeBench x = Bench.of(ONE + TALE + TALE + "cause a 1=1;cause b 1=1;");
        due("one excused", 1, () -> x.told(2));
        due("he who fills is not", NONE, () -> x.juror(1, 4));
        due("he is in the row", 0, () -> x.juror(1, 6));
        due("nor is he who does not fill", NONE, () -> x.juror(2, 4));
    }

    private static void numberedOn() {
        StrikeBench x = Bench.of("tales 7 0 20 0;juror 1 0 20 0;tales 8 0 20 0;juror 2 0 20 0;");
        int[] due = {1, 2, 7, 8};
        for (int i = 0; i < 4; i++) {
            int number = i;
            due("number " + i, due[i], () -> x.juror(number, 0));
        }
        due("no more", NO_SUCH, () -> x.juror(4, 0));
        StrikeBench most = Bench.of(TALE.repeat(3) + "tales 9 0 20 0;" + ONE.repeat(10));
        due("the last number", 9, () -> most.juror(13, 0));
        due("none behind it", NO_SUCH, () -> most.juror(14, 0));
    }
}
