import java.util.Arrays;
import java.util.Random;

/** Long runs of random calls, with fixed seeds: the class and the plain model must answer alike. */
public final class RandomRunsTest {
    private static final int RUNS = 3000;
    private static final int CALLS = 400;
    private static final String[] WORDS =
            {"edge", "line", "section", "timer", "raise", "up", "down", "set", "run", "runs", "ed", "", "Set"};
    private static final int[] NUMBERS = {2, 2, 4, 3, 1, 1, 1, 2, 1, 1, 2, 0, 2};

    private final Random random;
    private final int seed;
    private final Check check;
    private final NestedBells bells = new NestedBells();
    private final PlainModel model = new PlainModel();
    /** How far apart the events of a run lie, so that some runs are crowded and some are calm. */
    private final int scale;
    private int calls = 0;

    private RandomRunsTest(int seed, Check check) {
        this.seed = seed;
        this.check = check;
        random = new Random(seed);
        scale = 1 + random.nextInt(30);
    }

    public static void main(String[] arguments) {
        Check check = new Check();
        for (int seed = 0; seed < RUNS && check.isFine(); seed++) {
            new RandomRunsTest(seed, check).go();
        }
        check.end();
    }

    private void go() {
        int sources = 1 + random.nextInt(11);
        for (int i = 0; i < sources; i++) {
            compare("addSource", 1 + random.nextInt(15), random.nextInt(2), 1 + random.nextInt(2 * scale));
        }
        while (calls < CALLS && check.isFine()) {
            step();
        }
    }

    private void step() {
        switch (random.nextInt(40)) {
            case 0:
                compare("addSource", near(1, 15), near(0, 1), near(1, 500));
                break;
            case 1:
                compare("setSource", source(), near(0, 2), random.nextInt(3) == 0 ? near(1, 500) : near(0, 15));
                break;
            case 2:
            case 3:
                compare("addSection", source(), small(0, 499), small(1, 500), near(1, 15));
                break;
            case 4:
                compare("clearSections", source());
                break;
            case 5:
            case 6:
                compare("setTimer", source(), small(0, 999), random.nextInt(4) == 0 ? 0 : small(0, 1000));
                break;
            case 7:
            case 8:
            case 9:
            case 10:
            case 11:
                compare("raise", source());
                break;
            case 12:
            case 13:
            case 14:
                compare("setLine", source(), random.nextInt(2));
                break;
            case 15:
                compare("set", near(0, 3), random.nextInt(2) * small(0, 50));
                break;
            case 16:
                compare("set", 0, random.nextInt(3) * small(0, 15));
                break;
            case 17:
                compare("undo");
                break;
            case 18:
                typeAndRun();
                break;
            case 19:
                readAll();
                break;
            case 20:
            case 21:
                forecast();
                break;
            default:
                compare("run", random.nextInt(3) > 0 ? 1 + random.nextInt(3) : small(1, 500));
        }
        compare("digest");
    }

    private void forecast() {
        int most = random.nextInt(8) == 0 ? near(0, 1000) : random.nextInt(60);
        compare("entersAfter", source(), most);
        compare("latencyIf", source(), most);
        compare("idleAfter", most);
        compare("blocking", source());
    }

    private void readAll() {
        compare("source", source(), near(0, 16));
        compare("section", source(), near(0, 1), near(0, 3));
        compare("stack", near(0, 4));
        compare("processor", near(0, 11));
        compare("account", near(0, 9));
        compare("log", near(0, 20), near(0, 2));
        compare("stop");
    }

    private void typeAndRun() {
        if (random.nextInt(2) == 0) {
            compare("clearCommands");
        }
        StringBuilder text = new StringBuilder();
        int commands = random.nextInt(4);
        for (int i = 0; i < commands; i++) {
            appendCommand(text);
        }
        int place = text.length() == 0 ? 0 : random.nextInt(text.length());
        int harm = random.nextInt(6);
        if (harm == 0) {
            text.insert(place, "; 5x\nA{".charAt(random.nextInt(7)));
        } else if (harm == 1) {
            text.setLength(place);
        } else if (harm == 2 && text.length() > 0) {
            text.deleteCharAt(place);
        }
        for (int i = 0; i < text.length(); i++) {
            compare("type", text.charAt(i));
        }
        compare("runCommands");
        compare("stop");
    }

    private void appendCommand(StringBuilder text) {
        int i = random.nextInt(random.nextInt(4) == 0 ? WORDS.length : 9);
        text.append(spaces(0)).append(WORDS[i]);
        for (int k = 0; k < NUMBERS[i]; k++) {
            int number = k == 0 && i != 0 && i != 1 && i != 7 && i != 8 ? source() : small(0, 15);
            String digits = "" + Math.min(999, Math.abs(number));
            text.append(spaces(1)).append(random.nextInt(9) == 0 ? "0" + digits : digits);
        }
        text.append(spaces(0)).append(';').append(spaces(0));
    }

    private String spaces(int least) {
        return " ".repeat(least + (random.nextInt(6) == 0 ? random.nextInt(3) : 0));
    }

    private int source() {
        return random.nextInt(25) == 0 ? random.nextInt(16) - 2 : random.nextInt(9);
    }

    /** Mostly in the range and small, sometimes at the edge or out of it. */
    private int small(int least, int greatest) {
        return random.nextInt(12) == 0 ? near(least, greatest) : least + random.nextInt(Math.min(scale, greatest - least) + 1);
    }

    /** Mostly in the range, sometimes out of it. */
    private int near(int least, int greatest) {
        switch (random.nextInt(30)) {
            case 0:
                return least - 1;
            case 1:
                return greatest + 1;
            case 2:
                return random.nextInt();
            default:
                return least + random.nextInt(greatest - least + 1);
        }
    }

    private void compare(String name, int... a) {
        calls++;
        String want = model.call(name, a);
        String got;
        try {
            got = "" + answer(name, a);
        } catch (RuntimeException e) {
            got = "throws " + e.getClass().getSimpleName();
        }
        if (!got.equals(want)) {
            check.tell("seed " + seed + ", call " + calls + ": " + name + Arrays.toString(a) + " answered " + got
                    + ", the plain model says " + want);
        }
    }

    private long answer(String name, int... a) {
        switch (name) {
            case "addSource":
                return bells.addSource(a[0], a[1], a[2]);
            case "setSource":
                return bells.setSource(a[0], a[1], a[2]);
            case "addSection":
                return bells.addSection(a[0], a[1], a[2], a[3]);
            case "clearSections":
                return bells.clearSections(a[0]);
            case "setTimer":
                return bells.setTimer(a[0], a[1], a[2]);
            case "raise":
                return bells.raise(a[0]);
            case "setLine":
                return bells.setLine(a[0], a[1] == 1);
            case "set":
                return bells.set(a[0], a[1]);
            case "run":
                return bells.run(a[0]);
            case "source":
                return bells.source(a[0], a[1]);
            case "section":
                return bells.section(a[0], a[1], a[2]);
            case "stack":
                return bells.stack(a[0]);
            case "processor":
                return bells.processor(a[0]);
            case "account":
                return bells.account(a[0]);
            case "log":
                return bells.log(a[0], a[1]);
            default:
                return otherAnswer(name, a);
        }
    }

    private long otherAnswer(String name, int... a) {
        switch (name) {
            case "entersAfter":
                return bells.entersAfter(a[0], a[1]);
            case "idleAfter":
                return bells.idleAfter(a[0]);
            case "latencyIf":
                return bells.latencyIf(a[0], a[1]);
            case "blocking":
                return bells.blocking(a[0]);
            case "type":
                return bells.type(a[0]);
            case "clearCommands":
                return bells.clearCommands();
            case "runCommands":
                return bells.runCommands();
            case "stop":
                return bells.stop();
            case "undo":
                return bells.undo();
            case "digest":
                return bells.digest();
            default:
                throw new AssertionError(name);
        }
    }
}
