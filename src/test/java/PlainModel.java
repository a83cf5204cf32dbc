import java.util.ArrayList;
import java.util.List;
import java.util.regex.Matcher;
import java.util.regex.Pattern;

/** The document written down once more, as plainly and wastefully as it goes: what the class is compared with. */
final class PlainModel {
    private static final String[] WORDS = {"edge", "line", "section", "timer", "raise", "up", "down", "set", "run"};
    private static final int[] NUMBERS = {2, 2, 4, 3, 1, 1, 1, 2, 1};

    private static final class Source {
        int priority, kind, length;
        boolean enabled = true, edge, line;
        int pendingSince;
        int run;
        int on, off, lost, latest = -1, greatest = -1, preempted, ticks;
        int due, period;
        List<int[]> sections = new ArrayList<>();

        Source copy() {
            Source c = new Source();
            c.priority = priority;
            c.kind = kind;
            c.length = length;
            c.enabled = enabled;
            c.edge = edge;
            c.line = line;
            c.pendingSince = pendingSince;
            c.run = run;
            c.on = on;
            c.off = off;
            c.lost = lost;
            c.latest = latest;
            c.greatest = greatest;
            c.preempted = preempted;
            c.ticks = ticks;
            c.due = due;
            c.period = period;
            c.sections = new ArrayList<>(sections);
            return c;
        }
    }

    private static final class State {
        int time;
        int mask = 0, entryCost = 12, exitCost = 10, tailCost = 6;
        String change = "none";
        int entering = -1, left;
        List<Source> sources = new ArrayList<>();
        List<Integer> stack = new ArrayList<>();
        int mainTicks, handlerTicks, changeTicks, late, tails, preemptions, spurious, lost, deepest, latencies;
        /** The oldest one first. */
        List<int[]> events = new ArrayList<>();

        State copy() {
            State c = new State();
            c.time = time;
            c.mask = mask;
            c.entryCost = entryCost;
            c.exitCost = exitCost;
            c.tailCost = tailCost;
            c.change = change;
            c.entering = entering;
            c.left = left;
            for (Source s : sources) {
                c.sources.add(s.copy());
            }
            c.stack.addAll(stack);
            c.mainTicks = mainTicks;
            c.handlerTicks = handlerTicks;
            c.changeTicks = changeTicks;
            c.late = late;
            c.tails = tails;
            c.preemptions = preemptions;
            c.spurious = spurious;
            c.lost = lost;
            c.deepest = deepest;
            c.latencies = latencies;
            c.events.addAll(events);
            return c;
        }

        void event(int kind, int source, int at) {
            events.add(new int[] {kind, source, at});
            if (events.size() > 20) {
                events.remove(0);
            }
        }

        boolean pending(int n) {
            Source s = sources.get(n);
            return s.kind == 0 ? s.edge : s.line && !stack.contains(n);
        }

        boolean inForce(int n, int[] section) {
            int run = sources.get(n).run;
            return stack.contains(n) && section[0] <= run && run < section[0] + section[1];
        }

        int ceiling() {
            int most = 0;
            for (int n = 0; n < sources.size(); n++) {
                for (int[] section : sources.get(n).sections) {
                    if (inForce(n, section) && section[2] > most) {
                        most = section[2];
                    }
                }
            }
            return most;
        }

        int stackPriority() {
            int most = 0;
            for (int n : stack) {
                most = Math.max(most, sources.get(n).priority);
            }
            return most;
        }

        int level() {
            return Math.max(Math.max(mask, ceiling()), stackPriority());
        }

        int candidate() {
            for (int priority = 15; priority > level(); priority--) {
                for (int n = 0; n < sources.size(); n++) {
                    if (sources.get(n).priority == priority && sources.get(n).enabled && pending(n)) {
                        return n;
                    }
                }
            }
            return -1;
        }

        int why(int n) {
            Source s = sources.get(n);
            if (!pending(n)) {
                return -1;
            }
            if (!s.enabled) {
                return 1;
            }
            if (s.priority <= mask) {
                return 2;
            }
            if (s.priority <= ceiling()) {
                return 3;
            }
            if (s.priority <= stackPriority()) {
                return 4;
            }
            if (candidate() != n) {
                return 5;
            }
            return change.equals("none") ? 0 : 6;
        }

        int raise(int n) {
            Source s = sources.get(n);
            if (s.edge) {
                s.lost++;
                lost++;
                event(3, n, time);
                return 0;
            }
            s.edge = true;
            s.pendingSince = time;
            return 1;
        }

        int line(int n, boolean up) {
            Source s = sources.get(n);
            int was = s.line ? 1 : 0;
            if (up && !s.line) {
                s.pendingSince = time;
            }
            s.line = up;
            return was;
        }

        boolean entryOrTail() {
            return change.equals("entry") || change.equals("tail");
        }

        void change(String kind, int source, int ticks) {
            change = kind;
            entering = source;
            left = ticks;
        }

        void exit() {
            if (exitCost == 0) {
                change("none", -1, 0);
            } else {
                change("exit", -1, exitCost);
            }
        }

        void comeOnTop(int at) {
            int n = entering;
            change("none", -1, 0);
            Source s = sources.get(n);
            int latency = at - s.pendingSince;
            s.edge = false;
            s.run = 0;
            s.on++;
            s.latest = latency;
            s.greatest = Math.max(s.greatest, latency);
            latencies += latency;
            stack.add(n);
            deepest = Math.max(deepest, stack.size());
            event(1, n, at);
        }

        int tick() {
            for (int n = 0; n < sources.size(); n++) {
                Source s = sources.get(n);
                if (s.period != 0 && s.due == time) {
                    raise(n);
                    s.due += s.period;
                }
            }
            int candidate = candidate();
            if (entryOrTail()) {
                if (candidate == -1) {
                    event(7, entering, time);
                    spurious++;
                    exit();
                } else if (candidate != entering) {
                    entering = candidate;
                    late++;
                    event(4, candidate, time);
                }
            } else if (change.equals("exit") && candidate != -1) {
                change("tail", candidate, tailCost);
                tails++;
                event(5, candidate, time);
            } else if (change.equals("none") && candidate != -1) {
                change("entry", candidate, entryCost);
                if (!stack.isEmpty()) {
                    int top = stack.get(stack.size() - 1);
                    sources.get(top).preempted++;
                    preemptions++;
                    event(6, top, time);
                }
            }
            if (entryOrTail() && left == 0) {
                comeOnTop(time);
            }
            int off = 0;
            if (!change.equals("none")) {
                changeTicks++;
                left--;
                if (left == 0) {
                    if (entryOrTail()) {
                        comeOnTop(time + 1);
                    } else {
                        change("none", -1, 0);
                    }
                }
            } else if (stack.isEmpty()) {
                mainTicks++;
            } else {
                int n = stack.get(stack.size() - 1);
                Source s = sources.get(n);
                handlerTicks++;
                s.ticks++;
                s.run++;
                if (s.run == s.length) {
                    stack.remove(stack.size() - 1);
                    s.run = 0;
                    s.off++;
                    if (s.line) {
                        s.pendingSince = time + 1;
                    }
                    event(2, n, time + 1);
                    exit();
                    off = 1;
                }
            }
            time++;
            return off;
        }
    }

    private State state = new State();
    private final List<State> saved = new ArrayList<>();
    private String text = "";
    private int stop = 0;

    /** What a call answers: a number, or "throws" and the name of an exception. */
    String call(String name, int... a) {
        State before = state.copy();
        String answer = answer(name, a);
        boolean undoable = "addSource setSource addSection clearSections setTimer raise setLine set run"
                .matches("(.* )?" + name + "( .*)?");
        if (answer.startsWith("throws")) {
            state = before;
        } else if (undoable || name.equals("runCommands") && Integer.parseInt(answer) >= 0) {
            saved.add(before);
            if (saved.size() > 4) {
                saved.remove(0);
            }
        }
        return answer;
    }

    private static final String INDEX = "throws IndexOutOfBoundsException";
    private static final String ARGUMENT = "throws IllegalArgumentException";
    private static final String STATE = "throws IllegalStateException";

    private static boolean in(int value, int least, int greatest) {
        return least <= value && value <= greatest;
    }

    private String answer(String name, int... a) {
        String refusal = refusal(name, a);
        return refusal != null ? refusal : name.equals("digest") ? "" + digest() : "" + number(name, a);
    }

    private boolean noSource(int n) {
        return !in(n, 0, state.sources.size() - 1);
    }

    private String refusal(String name, int... a) {
        int n = a.length == 0 ? 0 : a[0];
        boolean stacked = state.stack.contains(n);
        switch (name) {
            case "addSource":
                return !in(a[0], 1, 15) || !in(a[1], 0, 1) || !in(a[2], 1, 500) ? ARGUMENT
                        : state.sources.size() == 12 ? STATE : null;
            case "setSource":
                return noSource(n) ? INDEX
                        : !(a[1] == 0 && in(a[2], 1, 15) || a[1] == 1 && in(a[2], 1, 500)
                        || a[1] == 2 && in(a[2], 0, 1)) ? ARGUMENT
                        : a[1] < 2 && (stacked || state.entering == n) ? STATE : null;
            case "addSection":
                return noSource(n) ? INDEX
                        : !in(a[1], 0, 499) || !in(a[2], 1, 500) || !in(a[3], 1, 15) ? ARGUMENT
                        : state.sources.get(n).sections.size() == 2 || stacked ? STATE : null;
            case "clearSections":
                return noSource(n) ? INDEX : stacked ? STATE : null;
            case "setTimer":
                return noSource(n) ? INDEX : !in(a[1], 0, 999) || !in(a[2], 0, 1000) ? ARGUMENT
                        : state.sources.get(n).kind == 1 ? STATE : null;
            case "raise":
                return noSource(n) ? INDEX : state.sources.get(n).kind == 1 ? STATE : null;
            case "setLine":
                return noSource(n) ? INDEX : state.sources.get(n).kind == 0 ? STATE : null;
            case "set":
                return !in(a[0], 0, 3) || !in(a[1], 0, a[0] == 0 ? 15 : 50) ? ARGUMENT : null;
            case "run":
                return !in(a[0], 1, 500) ? ARGUMENT : null;
            case "source":
                return noSource(n) ? INDEX : !in(a[1], 0, 16) ? ARGUMENT : null;
            case "section":
                return noSource(n) || !in(a[1], 0, state.sources.get(n).sections.size() - 1) ? INDEX
                        : !in(a[2], 0, 3) ? ARGUMENT : null;
            case "stack":
                return a[0] < 0 ? ARGUMENT : null;
            case "processor":
                return !in(a[0], 0, 11) ? ARGUMENT : null;
            case "account":
                return !in(a[0], 0, 9) ? ARGUMENT : null;
            case "log":
                return a[0] < 0 || !in(a[1], 0, 2) ? ARGUMENT : null;
            case "entersAfter":
            case "latencyIf":
                return noSource(n) ? INDEX : !in(a[1], 0, 1000) ? ARGUMENT : null;
            case "idleAfter":
                return !in(a[0], 0, 1000) ? ARGUMENT : null;
            case "blocking":
                return noSource(n) ? INDEX : null;
            case "type":
                return !in(a[0], 0, 127) ? ARGUMENT : text.length() == 150 ? STATE : null;
            case "undo":
                return saved.isEmpty() ? STATE : null;
            default:
                return null;
        }
    }

    private int number(String name, int... a) {
        switch (name) {
            case "addSource":
                return addSource(a);
            case "setSource":
                return setSource(a);
            case "addSection":
                state.sources.get(a[0]).sections.add(new int[] {a[1], a[2], a[3]});
                return state.sources.get(a[0]).sections.size();
            case "clearSections":
                int had = state.sources.get(a[0]).sections.size();
                state.sources.get(a[0]).sections.clear();
                return had;
            case "setTimer":
                Source s = state.sources.get(a[0]);
                int period = s.period;
                s.due = state.time + a[1];
                s.period = a[2];
                return period;
            case "raise":
                return state.raise(a[0]);
            case "setLine":
                return state.line(a[0], a[1] == 1);
            case "set":
                return set(a);
            case "run":
                int off = 0;
                for (int i = 0; i < a[0]; i++) {
                    off += state.tick();
                }
                return off;
            case "source":
                return source(a[0], a[1]);
            case "section":
                int[] section = state.sources.get(a[0]).sections.get(a[1]);
                return a[2] < 3 ? section[a[2]] : state.inForce(a[0], section) ? 1 : 0;
            case "stack":
                return a[0] < state.stack.size() ? state.stack.get(a[0]) : -1;
            case "processor":
                return processor(a[0]);
            case "account":
                return new int[] {state.mainTicks, state.handlerTicks, state.changeTicks, state.late, state.tails,
                    state.preemptions, state.spurious, state.lost, state.deepest, state.latencies}[a[0]];
            case "log":
                return a[0] < state.events.size()
                        ? state.events.get(state.events.size() - 1 - a[0])[a[1]] : -1;
            default:
                return otherNumber(name, a);
        }
    }

    private int otherNumber(String name, int... a) {
        switch (name) {
            case "entersAfter":
                return forecast(state.copy(), a[0], a[1])[0];
            case "latencyIf":
                State with = state.copy();
                if (with.sources.get(a[0]).kind == 1) {
                    with.line(a[0], true);
                } else if (!with.pending(a[0])) {
                    with.raise(a[0]);
                }
                return forecast(with, a[0], a[1])[1];
            case "idleAfter":
                State copy = state.copy();
                for (int i = 0; i <= a[0]; i++) {
                    if (copy.stack.isEmpty() && copy.change.equals("none")) {
                        return i;
                    }
                    copy.tick();
                }
                return -1;
            case "blocking":
                return blocking(state.sources.get(a[0]).priority);
            case "type":
                text += (char) a[0];
                return text.length();
            case "clearCommands":
                int length = text.length();
                text = "";
                return length;
            case "runCommands":
                return runCommands();
            case "stop":
                return stop;
            case "undo":
                state = saved.remove(saved.size() - 1);
                return saved.size();
            default:
                throw new AssertionError(name);
        }
    }

    private int addSource(int... a) {
        Source s = new Source();
        s.priority = a[0];
        s.kind = a[1];
        s.length = a[2];
        state.sources.add(s);
        return state.sources.size() - 1;
    }

    private int setSource(int... a) {
        Source s = state.sources.get(a[0]);
        int was = a[1] == 0 ? s.priority : a[1] == 1 ? s.length : s.enabled ? 1 : 0;
        if (a[1] == 0) {
            s.priority = a[2];
        } else if (a[1] == 1) {
            s.length = a[2];
        } else {
            s.enabled = a[2] == 1;
        }
        return was;
    }

    private int set(int... a) {
        int was = processor(1 + a[0]);
        switch (a[0]) {
            case 0:
                state.mask = a[1];
                break;
            case 1:
                state.entryCost = a[1];
                break;
            case 2:
                state.exitCost = a[1];
                break;
            default:
                state.tailCost = a[1];
                break;
        }
        return was;
    }

    private int source(int n, int what) {
        Source s = state.sources.get(n);
        return new int[] {s.priority, s.kind, s.length, s.enabled ? 1 : 0, state.pending(n) ? 1 : 0,
            s.line ? 1 : 0, state.stack.indexOf(n), s.run, s.on, s.off, s.lost, s.latest, s.greatest, s.preempted,
            s.ticks, s.period == 0 ? -1 : s.due - state.time, state.why(n)}[what];
    }

    private int processor(int what) {
        int kind = List.of("none", "entry", "exit", "tail").indexOf(state.change);
        return new int[] {state.time, state.mask, state.entryCost, state.exitCost, state.tailCost, state.level(),
            state.candidate(), state.stack.size(), kind, state.entering, state.left, state.sources.size()}[what];
    }

    private static int[] forecast(State copy, int n, int most) {
        int on = copy.sources.get(n).on;
        for (int i = 1; i <= most; i++) {
            copy.tick();
            if (copy.sources.get(n).on > on) {
                return new int[] {i, copy.sources.get(n).latest};
            }
        }
        return new int[] {-1, -1};
    }

    private int blocking(int priority) {
        int most = 0;
        for (Source s : state.sources) {
            for (int[] section : s.sections) {
                int ticks = 0;
                for (int t = section[0]; t < section[0] + section[1]; t++) {
                    ticks += t < s.length ? 1 : 0;
                }
                if (s.priority < priority && section[2] >= priority) {
                    most = Math.max(most, ticks);
                }
            }
        }
        return most;
    }

    private static Pattern grammar() {
        StringBuilder commands = new StringBuilder();
        for (int i = 0; i < WORDS.length; i++) {
            commands.append(i == 0 ? "" : "|").append(WORDS[i]).append("( +[0-9]{1,3}){" + NUMBERS[i] + "}");
        }
        return Pattern.compile("( *(" + commands + ") *;)* *");
    }

    private static final Pattern GRAMMAR = grammar();

    private static boolean canGoOn(String start) {
        Matcher m = GRAMMAR.matcher(start);
        return m.matches() || m.hitEnd();
    }

    /** The fault of a text; -1 if it has none. */
    static int fault(String text) {
        if (GRAMMAR.matcher(text).matches()) {
            return -1;
        }
        int good = 0;
        while (good < text.length() && canGoOn(text.substring(0, good + 1))) {
            good++;
        }
        int start = good;
        while (start > 0 && isLetter(text.charAt(start - 1))) {
            start--;
        }
        int end = good;
        while (end < text.length() && isLetter(text.charAt(end))) {
            end++;
        }
        boolean inWord = start < end && canGoOn(text.substring(0, start) + "run");
        return inWord && !List.of(WORDS).contains(text.substring(start, end)) ? start : good;
    }

    private static boolean isLetter(char c) {
        return c >= 'a' && c <= 'z';
    }

    private int runCommands() {
        int fault = fault(text);
        if (fault >= 0) {
            return -10 - fault;
        }
        stop = 0;
        int done = 0;
        for (String command : text.split(";")) {
            if (command.isBlank()) {
                continue;
            }
            String[] parts = command.trim().split(" +");
            String answer = command(parts[0], parts);
            if (answer.startsWith("throws")) {
                stop = answer.equals(INDEX) ? 1 : answer.equals(ARGUMENT) ? 2 : 3;
                return done;
            }
            done++;
        }
        return done;
    }

    private String command(String word, String... parts) {
        int[] n = new int[4];
        for (int i = 1; i < parts.length; i++) {
            n[i - 1] = Integer.parseInt(parts[i]);
        }
        switch (word) {
            case "edge":
                return answer("addSource", n[0], 0, n[1]);
            case "line":
                return answer("addSource", n[0], 1, n[1]);
            case "section":
                return answer("addSection", n);
            case "timer":
                return answer("setTimer", n[0], n[1], n[2]);
            case "raise":
                return answer("raise", n[0]);
            case "up":
                return answer("setLine", n[0], 1);
            case "down":
                return answer("setLine", n[0], 0);
            case "set":
                return answer("set", n[0], n[1]);
            default:
                return answer("run", n[0]);
        }
    }

    private long digest() {
        List<Integer> values = new ArrayList<>(List.of(saved.size(), text.length(), stop));
        for (int i = 0; i < 12; i++) {
            values.add(processor(i));
        }
        for (int i = 0; i < 10; i++) {
            values.add(number("account", i));
        }
        for (int n = 0; n < state.sources.size(); n++) {
            for (int i = 0; i < 17; i++) {
                values.add(source(n, i));
            }
            for (int k = 0; k < state.sources.get(n).sections.size(); k++) {
                for (int i = 0; i < 4; i++) {
                    values.add(number("section", n, k, i));
                }
            }
        }
        values.addAll(state.stack);
        for (int e = 0; e < state.events.size(); e++) {
            for (int i = 0; i < 3; i++) {
                values.add(number("log", e, i));
            }
        }
        long h = 43211;
        for (int v : values) {
            h = 31 * h + v;
        }
        return h;
    }
}
