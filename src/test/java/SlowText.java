import java.util.ArrayList;
import java.util.HashMap;
import java.util.HashSet;
import java.util.List;
import java.util.Map;
import java.util.Set;
import java.util.function.Predicate;
import java.util.function.ToIntFunction;
import java.util.regex.Matcher;
import java.util.regex.Pattern;

/** A text read by patterns, for SlowBench; conditions become functions. */
final class SlowText {
    record Person(int first, int second, int age, int kin) {
        int worth(int side) {
            return side == 0 ? first : second;
        }
    }

    private static final class Fault extends Exception {
        private static final long serialVersionUID = 1;
        final int kind;
        final int at;

        Fault(int kind, int at) {
            this.kind = kind;
            this.at = at;
        }
    }

    private static final Pattern WORD = Pattern.compile("[a-z]+");
    private static final Pattern DIGITS = Pattern.compile("[0-9]+");
    private static final Pattern SIDE = Pattern.compile("[ab]");
    private static final Pattern COMPARE = Pattern.compile("[<=>]");

    final List<Person> jurors = new ArrayList<>();
    final List<Person> tales = new ArrayList<>();
    final List<Integer> turns = new ArrayList<>();
    int seats = 2;
    int spare = 0;
    boolean box = false;
    int fault = 0;
    int place = -1;

    private final String text;
    private int at = 0;
    private int grant = 9;
    private final Map<Integer, Predicate<Person>> causes = new HashMap<>();
    private Predicate<Person> bench = p -> true;
    private final Set<String> once = new HashSet<>();

    SlowText(String text) {
        this.text = text;
        try {
            while (!peek().isEmpty()) {
                line();
                sign(";");
            }
            if (jurors.isEmpty()) {
                throw new Fault(5, text.length());
            }
        } catch (Fault f) {
            fault = f.kind;
            place = f.at;
        }
    }

    Map<Integer, Integer> excused() {
        Map<Integer, Integer> excused = new HashMap<>();
        int[] granted = new int[2];
        for (int j = 0; j < jurors.size(); j++) {
            for (int side = 0; side < 2; side++) {
                Predicate<Person> cause = causes.get(side);
                if (!excused.containsKey(j) && cause != null && granted[side] < grant
                        && cause.test(jurors.get(j)) && bench.test(jurors.get(j))) {
                    excused.put(j, side);
                    granted[side]++;
                }
            }
        }
        return excused;
    }

    /** What stands next behind blanks: a whole word, or one byte; nothing at the end. */
    private String peek() {
        while (at < text.length() && text.charAt(at) == ' ') {
            at++;
        }
        String word = match(WORD);
        return word != null ? word : at < text.length() ? text.substring(at, at + 1) : "";
    }

    private String match(Pattern pattern) {
        Matcher matcher = pattern.matcher(text).region(at, text.length());
        return matcher.lookingAt() ? matcher.group() : null;
    }

    private String need(Pattern pattern) throws Fault {
        peek();
        String found = match(pattern);
        if (found == null) {
            throw new Fault(1, at);
        }
        at += found.length();
        return found;
    }

    private void sign(String sign) throws Fault {
        if (!peek().equals(sign)) {
            throw new Fault(1, at);
        }
        at += sign.length();
    }

    private int n(int least, int most) throws Fault {
        peek();
        int start = at;
        java.math.BigInteger number = new java.math.BigInteger(need(DIGITS));
        if (number.compareTo(java.math.BigInteger.valueOf(least)) < 0
                || number.compareTo(java.math.BigInteger.valueOf(most)) > 0) {
            throw new Fault(2, start);
        }
        return number.intValue();
    }

    private int z(int most) throws Fault {
        boolean minus = peek().equals("-");
        int start = at;
        if (minus) {
            at++;
        }
        java.math.BigInteger number = new java.math.BigInteger(need(DIGITS));
        if (number.compareTo(java.math.BigInteger.valueOf(most)) > 0) {
            throw new Fault(2, start);
        }
        return minus ? -number.intValue() : number.intValue();
    }

    private Person person() throws Fault {
        int first = z(50);
        int second = z(50);
        int age = n(18, 99);
        return new Person(first, second, age, n(0, 3));
    }

    private void once(String what, int place) throws Fault {
        if (!once.add(what)) {
            throw new Fault(1, place);
        }
    }

    private void line() throws Fault {
        String word = peek();
        int start = at;
        at += word.length();
        if (List.of("seats", "spare", "turns", "box", "bench", "grant").contains(word)) {
            once(word, start);
        }
        switch (word) {
            case "juror" -> {
                if (jurors.size() == 10) {
                    throw new Fault(3, start);
                }
                jurors.add(person());
            }
            case "tales" -> {
                if (tales.size() == 4) {
                    throw new Fault(3, start);
                }
                tales.add(person());
            }
            case "seats" -> seats = n(1, 6);
            case "spare" -> spare = n(0, 3);
            case "grant" -> grant = n(0, 9);
            case "box" -> box = true;
            case "bench" -> bench = any(0);
            case "cause" -> {
                String side = need(SIDE);
                once("cause" + side, at - 1);
                causes.put(side.charAt(0) - 'a', any(0));
            }
            case "turns" -> {
                while (peek().startsWith("a") || peek().startsWith("b")) {
                    if (turns.size() == 8) {
                        throw new Fault(1, at);
                    }
                    turns.add(need(SIDE).charAt(0) - 'a');
                }
            }
            default -> throw new Fault(1, start);
        }
    }

    private Predicate<Person> any(int within) throws Fault {
        Predicate<Person> left = each(within);
        while (peek().equals("or")) {
            at += 2;
            left = left.or(each(within));
        }
        return left;
    }

    private Predicate<Person> each(int within) throws Fault {
        Predicate<Person> left = one(within);
        while (peek().equals("and")) {
            at += 3;
            left = left.and(one(within));
        }
        return left;
    }

    private Predicate<Person> one(int within) throws Fault {
        String next = peek();
        if ((next.equals("not") || next.equals("(")) && within == 4) {
            throw new Fault(4, at);
        }
        if (next.equals("not")) {
            at += 3;
            return one(within + 1).negate();
        }
        if (next.equals("(")) {
            at += 1;
            Predicate<Person> inner = any(within + 1);
            sign(")");
            return inner;
        }
        ToIntFunction<Person> left = operand();
        String compare = need(COMPARE);
        ToIntFunction<Person> right = operand();
        return switch (compare) {
            case "<" -> p -> left.applyAsInt(p) < right.applyAsInt(p);
            case "=" -> p -> left.applyAsInt(p) == right.applyAsInt(p);
            default -> p -> left.applyAsInt(p) > right.applyAsInt(p);
        };
    }

    private ToIntFunction<Person> operand() throws Fault {
        String next = peek();
        ToIntFunction<Person> asked = switch (next) {
            case "first" -> Person::first;
            case "second" -> Person::second;
            case "age" -> Person::age;
            case "kin" -> Person::kin;
            case "gap" -> p -> p.first() - p.second();
            default -> null;
        };
        if (asked != null) {
            at += next.length();
            return asked;
        }
        int number = z(99);
        return p -> number;
    }
}
