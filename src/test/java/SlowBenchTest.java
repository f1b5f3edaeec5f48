import java.util.Random;

/** Random runs of calls, every answer held against SlowBench; seeds are written, so each run is the same. */
public final class SlowBenchTest {
    private static final int RUNS = 700;
    private static final String[] QUALITIES = {"first", "second", "age", "kin", "gap"};

    private final Random random;
    private final int seed;
    private StrikeBench bench = new StrikeBench();
    private SlowBench slow = new SlowBench();
    private final StringBuilder log = new StringBuilder();

    private SlowBenchTest(int seed) {
        this.seed = seed;
        random = new Random(seed);
    }

    public static void main(String[] args) {
        int first = args.length > 0 ? Integer.parseInt(args[0]) : 1;
        int runs = args.length > 1 ? Integer.parseInt(args[1]) : RUNS;
        for (int seed = first; seed < first + runs && Bench.howManyWrong() == 0; seed++) {
            new SlowBenchTest(seed).run();
        }
        Bench.end();
    }

    private int below(int n) {
        return random.nextInt(n);
    }

    private int from(int least, int most) {
        return least + random.nextInt(most - least + 1);
    }

    /** Mostly what fits, now and then a little beside it. */
    private int near(int least, int most) {
        return below(15) == 0 ? from(least - 3, most + 3) : from(least, most);
    }

    private void run() {
        for (int part = 0; part < 3; part++) {
            for (int tries = 0; tries < 3; tries++) {
                tellSomething();
            }
            for (int i = 0; i < 35; i++) {
                if (below(4) == 0) {
                    act();
                }
                ask();
            }
        }
    }

    private void same(String call, Bench.Call fast, Bench.Call asDocument) {
        log.append(call).append("; ");
        Bench.due("seed " + seed + ": " + log, Bench.answer(asDocument), fast);
    }

    private void tellSomething() {
        byte[] bytes = Bench.bytes(someText());
        for (int at = 0; at < bytes.length; at += 20) {
            int a = Bench.number(bytes, at);
            int b = Bench.number(bytes, at + 4);
            int c = Bench.number(bytes, at + 8);
            int d = Bench.number(bytes, at + 12);
            int e = Bench.number(bytes, at + 16);
            same("feed", () -> bench.feed(a, b, c, d, e), () -> slow.feed(a, b, c, d, e));
        }
        int n = below(10) == 0 ? from(-1, bytes.length + 25) : bytes.length;
        same("text " + n + " of {" + new String(bytes, java.nio.charset.StandardCharsets.ISO_8859_1) + "}",
                () -> bench.text(n), () -> slow.text(n));
        same("fault", bench::fault, slow::fault);
    }

    private String blanks() {
        return " ".repeat(below(200) == 0 ? 0 : below(8) == 0 ? from(1, 4) : 1);
    }

    private String thin() {
        return below(6) == 0 ? " ".repeat(from(1, 2)) : "";
    }

    private String someZ(int most) {
        int number = below(300) == 0 ? from(-most - 2, most + 2) : from(-most, most);
        return z(below(3) > 0 ? number / 8 : number);
    }

    private String z(int number) {
        return number < 0 ? "-" + thin() + (below(9) == 0 ? "0" : "") + -number : "" + number;
    }

    private String n(int least, int most) {
        return (below(15) == 0 ? "00" : "") + (below(300) == 0 ? from(Math.max(0, least - 1), most + 1) : from(least, most));
    }

    private String person(String word) {
        int opposed = from(-9, 9);
        String worths = below(2) == 0 ? z(opposed) + blanks() + z(-opposed) : someZ(50) + blanks() + someZ(50);
        return word + blanks() + worths + blanks() + n(18, 99) + blanks() + n(0, 3);
    }

    private String operand() {
        return below(3) == 0 ? someZ(below(4) == 0 ? 99 : 9) : QUALITIES[below(5)];
    }

    private String any(int nested) {
        String c = each(nested);
        while (below(4) == 0) {
            c += blanks() + " or " + each(nested);
        }
        return c;
    }

    private String each(int nested) {
        String d = one(nested);
        while (below(4) == 0) {
            d += blanks() + " and " + one(nested);
        }
        return d;
    }

    private String one(int nested) {
        int kind = nested > 5 ? 9 : below(7);
        if (kind == 0) {
            return "not " + one(nested + 1);
        }
        if (kind == 1) {
            return "(" + thin() + any(nested + 1) + thin() + ")";
        }
        return operand() + thin() + "<=>".charAt(below(3)) + thin() + operand();
    }

    private String turns(int most) {
        StringBuilder turns = new StringBuilder("turns ");
        for (int i = from(most / 2, most); i > 0; i--) {
            turns.append(thin()).append(below(2) == 0 ? 'a' : 'b');
        }
        return turns.toString();
    }

    private String someText() {
        java.util.List<String> lines = new java.util.ArrayList<>();
        int jurors = below(60) == 0 ? 11 : below(30) == 0 ? 0 : from(1, below(3) == 0 ? 10 : 7);
        for (int i = 0; i < jurors; i++) {
            lines.add(person("juror"));
        }
        int tales = below(60) == 0 ? 5 : below(5);
        for (int i = 0; i < tales; i++) {
            lines.add(person("tales"));
        }
        int most = below(60) == 0 ? 9 : jurors > 7 ? 5 : 7;
        String[] rest = {"seats" + blanks() + n(1, 6), "spare" + blanks() + n(0, 3), turns(most), "box" + thin(),
            "cause" + blanks() + "a" + thin() + any(0), "cause b " + any(0), "bench " + any(0), "grant" + thin() + n(0, 9)};
        int[] often = {80, 60, 95, 40, 35, 35, 50, 20};
        for (int i = 0; i < rest.length; i++) {
            if (below(100) < often[i]) {
                lines.add(rest[i]);
            }
            if (below(400) == 0) {
                lines.add(rest[i]);
            }
        }
        if (below(2) == 0) {
            java.util.Collections.shuffle(lines, random);
        }
        StringBuilder text = new StringBuilder();
        for (String line : lines) {
            text.append(thin()).append(line).append(thin()).append(';');
        }
        text.append(thin());
        if (below(5) == 0) {
            spoil(text);
        }
        return text.length() > 500 ? text.substring(0, 500) : text.toString();
    }

    private void spoil(StringBuilder text) {
        String signs = " ;()<=>-+abno0199rz\0\u00ffA";
        for (int i = from(1, 2); i > 0 && text.length() > 0; i--) {
            int at = below(text.length());
            switch (below(4)) {
                case 0 -> text.deleteCharAt(at);
                case 1 -> text.insert(at, signs.charAt(below(signs.length())));
                case 2 -> text.setCharAt(at, signs.charAt(below(signs.length())));
                default -> text.setLength(at);
            }
        }
    }

    private void act() {
        int what = below(12);
        if (what < 5) {
            int best = slow.best();
            int juror = below(3) == 0 && best >= 0 ? best : someOne();
            same("strike " + juror, () -> bench.strike(juror), () -> slow.strike(juror));
        } else if (what < 7) {
            same("pass", bench::pass, slow::pass);
        } else if (what < 9) {
            int of = near(0, 2);
            int n = of == 0 ? near(1, 6) : of == 1 ? near(0, 3) : near(0, 1);
            same("rule " + of + " " + n, () -> bench.rule(of, n), () -> slow.rule(of, n));
        } else if (what < 10) {
            int n = slow.told(3) > 7 ? near(0, 5) : near(0, 8);
            int bits = below(10) == 0 ? random.nextInt() : below(1 << Math.max(0, Math.min(n, 8)));
            same("order " + n + " " + bits, () -> bench.order(n, bits), () -> slow.order(n, bits));
        } else {
            for (int i = below(12) == 0 ? from(1, 9) : 1; i > 0; i--) {
                same("undo", bench::undo, slow::undo);
            }
        }
    }

    /** Mostly one of the row. */
    private int someOne() {
        int number = near(0, Math.max(0, slow.told(0) + slow.told(1) - 1));
        boolean exists = number >= 0 && number < slow.told(0) + slow.told(1);
        boolean isOut = exists && slow.juror(number, 6) == SlowBench.NONE;
        return isOut && below(3) > 0 ? slow.seat(0, false) : number;
    }

    private void ask() {
        int side = near(0, 1);
        int juror = someOne();
        int i = near(0, Math.max(1, slow.told(7) - 1));
        int what = near(0, 11);
        boolean yes = random.nextBoolean();
        switch (below(19)) {
            case 0 -> same("told " + what, () -> bench.told(what), () -> slow.told(what));
            case 1 -> {
                int of = near(0, 7);
                same("juror " + juror + " " + of, () -> bench.juror(juror, of), () -> slow.juror(juror, of));
            }
            case 2 -> same("seat " + i + yes, () -> bench.seat(i, yes), () -> slow.seat(i, yes));
            case 3 -> same("turn " + i, () -> bench.turn(i), () -> slow.turn(i));
            case 4 -> same("worth " + side, () -> bench.worth(side), () -> slow.worth(side));
            case 5 -> same("value " + side, () -> bench.value(side), () -> slow.value(side));
            case 6 -> same("best", bench::best, slow::best);
            case 7 -> same("line " + i, () -> bench.line(i), () -> slow.line(i));
            case 8, 9 -> {
                int whom = below(4) == 0 ? -1 : juror;
                same("cost " + whom, () -> bench.cost(whom), () -> slow.cost(whom));
            }
            case 10 -> same("states", bench::states, slow::states);
            case 11 -> same("more " + side + yes, () -> bench.more(side, yes), () -> slow.more(side, yes));
            case 12 -> same("other " + side + " " + i, () -> bench.other(side, i), () -> slow.other(side, i));
            case 13 -> same("without " + side + " " + juror,
                    () -> bench.without(side, juror), () -> slow.without(side, juror));
            case 14 -> {
                int bits = near(0, 3);
                same("plain " + side + " " + bits, () -> bench.plain(side, bits), () -> slow.plain(side, bits));
            }
            case 15 -> {
                int of = near(0, 4);
                same("once " + of, () -> bench.once(of), () -> slow.once(of));
            }
            case 16 -> {
                int of = near(0, 2);
                int n = from(10, 105);
                same("count " + of + " " + n, () -> bench.count(of, n), () -> slow.count(of, n));
            }
            case 17 -> same("print", bench::print, slow::print);
            default -> {
                int of = near(0, 2);
                same("status " + of, () -> bench.status(of), () -> slow.status(of));
            }
        }
    }
}
