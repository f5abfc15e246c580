import java.util.ArrayList;
import java.util.Arrays;
import java.util.List;
import java.util.Random;

/** Long runs of drawn calls (the same ones each time), told to BoyBishop and to Model: all answers must be alike. */
public final class ModelTest {
    private static final int RUNS = 1500;
    private static final int CALLS = 300;
    private static final String[] WORDS = {"voter", "boy", "voice", "share", "likes", "fade", "was", "same", "day", "chest", "boys"};

    /** How often each kind of fault was told, of choirs and of rules: a kind never told was never compared. */
    private static final int[][] FAULTS = new int[2][8];

    private final Random random;
    private final BoyBishop bishop = new BoyBishop();
    private final Model model = new Model();
    private final List<String> told = new ArrayList<>();
    private boolean wrong;

    private ModelTest(long seed) { random = new Random(seed); }

    public static void main(String[] args) {
        int[] good = new int[Calls.NAMES.length];
        for (int run = 0; run < RUNS; run++) {
            ModelTest test = new ModelTest(run);
            test.play(good);
            if (test.wrong) {
                System.out.println("run " + run + ": " + String.join("\n  ", test.told));
                System.exit(1);
            }
        }
        for (int i = 0; i < good.length; i++) {
            if (good[i] < 50) {
                System.out.println(Calls.NAMES[i] + " answered something but NONE and -2 only " + good[i] + " times");
                System.exit(1);
            }
        }
        System.out.println("faults of choirs and rules by kind: " + Arrays.deepToString(FAULTS));
        System.out.println("answers of 0 or more: " + Arrays.toString(good));
        System.out.println("ModelTest: " + RUNS + " runs are alike");
    }

    private int call(int[] good, String name, int... arguments) {
        int which = Arrays.asList(Calls.NAMES).indexOf(name);
        int got = Calls.of(bishop, which, arguments);
        int due = Calls.of(model, which, arguments);
        if (got >= 0) good[which]++;
        if (got < -2 && (name.equals("choir") || name.equals("rule"))) FAULTS[which - 2][(-3 - got) % 8]++;
        told.add(name + Arrays.toString(arguments) + " answered " + got + (got == due ? "" : ", due is " + due));
        if (got != due) wrong = true;
        return got;
    }

    private void say(int[] good, String text) {
        byte[] bytes = text.getBytes(java.nio.charset.StandardCharsets.ISO_8859_1);
        call(good, "end", 0);
        told.add("\"" + text + "\"");
        for (int i = 0; i < bytes.length; i += 20) {
            java.nio.ByteBuffer part = java.nio.ByteBuffer.wrap(Arrays.copyOf(Arrays.copyOfRange(bytes, i, Math.min(bytes.length, i + 20)), 20));
            call(good, "feed", part.getInt(), part.getInt(), part.getInt(), part.getInt(), part.getInt());
        }
        call(good, "end", Math.min(400, bytes.length));
    }

    private void play(int[] good) {
        if (random.nextInt(8) > 0) {
            say(good, choirText());
            call(good, "choir");
        }
        for (int i = random.nextInt(4); i > 0; i--) {
            say(good, ruleText());
            call(good, "rule");
        }
        call(good, "force", random.nextInt(4) - 1);
        for (int i = 0; i < CALLS && !wrong && told.size() < 600; i++) {
            int kind = random.nextInt(100);
            if (kind < 3) {
                say(good, random.nextBoolean() ? choirText() : spoil(choirText()));
                call(good, "choir");
            } else if (kind < 7) {
                say(good, random.nextBoolean() ? ruleText() : spoil(ruleText()));
                call(good, "rule");
            } else if (kind < 30) {
                call(good, "day");
            } else {
                drawnCall(good);
            }
        }
    }

    private void drawnCall(int[] good) {
        int which = 4 + random.nextInt(Calls.NAMES.length - 4);
        String name = Calls.NAMES[which];
        int[] a = new int[Calls.ARGUMENTS[which]];
        for (int i = 0; i < a.length; i++) a[i] = random.nextInt(8) - 2;
        if (random.nextInt(40) == 0) a = random.ints(a.length).toArray();
        else switch (name) {
            case "ahead", "falls", "likely" -> a[1] = random.nextInt(70) - 4;
            case "give" -> { a[0] = random.nextInt(4); a[1] = random.nextInt(4); }
            case "promise" -> a[1] = random.nextInt(4) == 0 ? bishop.boy(a[0], 1) : random.nextInt(24) - 1;
            case "note" -> { a[0] = random.nextInt(66) - 2; if (random.nextBoolean()) a[1] = bishop.count(8); }
            case "winters" -> { a[0] = random.nextInt(12); a[1] = random.nextInt(63); a[2] = random.nextInt(105) - 2; a[3] = random.nextInt(3); }
            case "count" -> a[0] = random.nextInt(23) - 1;
            case "seed" -> a[0] = random.nextInt();
            case "back" -> a[0] = random.nextInt(12) - 1;
            default -> { }
        }
        call(good, name, a);
    }

    private int upTo(int most) { return random.nextInt(most + 1); }

    private String choirText() {
        StringBuilder text = new StringBuilder("choir " + (1 + upTo(random.nextBoolean() ? 39 : 4)) + " " + upTo(24));
        int boys = 0, farms = 0, canons = 0;
        int clauses = upTo(45);
        boolean fast = random.nextBoolean();
        for (int i = 0; i < clauses && text.length() < 380; i++) {
            text.append(random.nextInt(10) == 0 ? " ; " : ";");
            switch (random.nextInt(8)) {
                case 0, 1 -> {
                    if (boys == 6 && random.nextInt(20) > 0) { text.append("snow ").append(upTo(60)); break; }
                    text.append("boy ").append(1 + upTo(98)).append(' ').append(upTo(20)).append(' ').append(upTo(fast ? 9 : 1));
                    boys++;
                }
                case 2, 3 -> {
                    if (boys == 0) { text.append("snow ").append(upTo(20)); break; }
                    text.append("likes ").append(upTo(boys - 1)).append(' ').append(upTo(boys - 1)).append(' ').append(upTo(20));
                }
                case 4 -> {
                    if (canons == 4 && random.nextInt(20) > 0) { text.append("snow ").append(upTo(60)); break; }
                    text.append("canon ").append(random.nextBoolean() ? 99 - upTo(3) : 99 - upTo(79)).append(' ').append(upTo(99));
                    canons++;
                }
                case 5 -> {
                    if (farms == 6 && random.nextInt(20) > 0) { text.append("snow ").append(upTo(60)); break; }
                    text.append("farm ").append(upTo(60)).append(' ').append(upTo(9));
                    farms++;
                }
                default -> {
                    if (farms == 0) { text.append("snow ").append(upTo(20)); break; }
                    int one = upTo(farms), other = (one + 1 + upTo(farms - 1)) % (farms + 1);
                    text.append("way ").append(one).append(' ').append(other).append(' ').append(1 + upTo(random.nextBoolean() ? 11 : 3));
                }
            }
        }
        return text.length() > 400 ? text.substring(0, 400) : text.toString();
    }

    private String ruleText() {
        StringBuilder text = new StringBuilder();
        int clauses = random.nextInt(20) == 0 ? 14 : 1 + upTo(3);
        for (int i = 0; i < clauses; i++) {
            text.append(i == 0 ? "vote " : ";vote ").append(sum(3));
            if (random.nextInt(3) > 0) text.append(" if ").append(test(random.nextInt(10) == 0 ? 12 : 3));
            if (text.length() > 300) break;
        }
        return text.length() > 400 ? text.substring(0, 400) : text.toString();
    }

    private String sum(int most) {
        StringBuilder text = new StringBuilder(value());
        for (int i = upTo(most); i > 0; i--) text.append(" + - * / %".split(" ")[1 + random.nextInt(5)]).append(value());
        return text.toString();
    }

    private String value() {
        return random.nextInt(3) == 0 ? String.valueOf(upTo(random.nextInt(5) == 0 ? 99999 : 9)) : WORDS[random.nextInt(WORDS.length)];
    }

    private String test(int depth) {
        StringBuilder text = new StringBuilder(fact(depth));
        for (int i = random.nextInt(8) == 0 ? upTo(20) : upTo(1); i > 0; i--) text.append(random.nextBoolean() ? " and " : " or ").append(fact(depth));
        return text.toString();
    }

    private String fact(int depth) {
        if (depth > 0 && random.nextInt(depth > 4 ? 20 : 3) < (depth > 4 ? 19 : 1)) {
            return random.nextBoolean() ? "not " + fact(depth - 1) : "[" + test(depth > 4 ? depth - 1 : 0) + "]";
        }
        return sum(1) + " < <= = >= >".split(" ")[1 + random.nextInt(5)] + sum(1);
    }

    private String spoil(String text) {
        StringBuilder spoilt = new StringBuilder(text);
        for (int i = 1 + upTo(1); i > 0; i--) {
            int at = random.nextInt(spoilt.length() + 1);
            String signs = " 0123456789;abcdefghijklmnopqrstuvwxyz<>=+-*/%[]A\u0000\u00ff";
            char sign = signs.charAt(random.nextInt(signs.length()));
            switch (random.nextInt(4)) {
                case 0 -> spoilt.insert(at, sign);
                case 1 -> { if (at < spoilt.length()) spoilt.setCharAt(at, sign); }
                case 2 -> { if (at < spoilt.length()) spoilt.deleteCharAt(at); }
                default -> spoilt.setLength(at);
            }
        }
        return spoilt.length() > 400 ? spoilt.substring(0, 400) : spoilt.toString();
    }
}
