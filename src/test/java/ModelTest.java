import java.util.ArrayList;
import java.util.Arrays;
import java.util.HashMap;
import java.util.List;
import java.util.Map;
import java.util.Random;
import java.util.TreeMap;

/** Runs of 512 drawn calls, always the same ones, on the program and on the ModelHeaps, with the same answers. */
public final class ModelTest {
    private static final int CALLS = 512;
    private static final int RUNS = 1500;
    private static final int STATE_EVERY = 16;

    private static final int[] POOLS = {1, 40, 44, 64, 100, 200, 333, 600, 1000};

    /** How often a call is drawn, in runs of each sort: of all, of many blobs, of many messages, of great terms. */
    private static final Map<String, int[]> WEIGHTS = new TreeMap<>();

    static {
        WEIGHTS.put("spawn", new int[] {3, 1, 4, 1});
        WEIGHTS.put("exit", new int[] {1, 0, 1, 0});
        WEIGHTS.put("nil", new int[] {4, 1, 3, 0});
        WEIGHTS.put("integer", new int[] {6, 1, 4, 1});
        WEIGHTS.put("name", new int[] {3, 1, 2, 0});
        WEIGHTS.put("move", new int[] {4, 1, 2, 1});
        WEIGHTS.put("pair", new int[] {16, 30, 10, 40});
        WEIGHTS.put("tuple", new int[] {10, 6, 8, 4});
        WEIGHTS.put("blob", new int[] {5, 20, 6, 1});
        WEIGHTS.put("part", new int[] {8, 2, 6, 3});
        WEIGHTS.put("send", new int[] {10, 4, 12, 3});
        WEIGHTS.put("broadcast", new int[] {3, 0, 6, 0});
        WEIGHTS.put("receive", new int[] {8, 2, 9, 3});
        WEIGHTS.put("collect", new int[] {3, 1, 3, 1});
        WEIGHTS.put("trim", new int[] {2, 1, 2, 1});
        WEIGHTS.put("count", new int[] {3, 2, 3, 1});
        WEIGHTS.put("of", new int[] {3, 2, 3, 1});
        WEIGHTS.put("kind", new int[] {2, 1, 2, 1});
        WEIGHTS.put("value", new int[] {2, 1, 2, 1});
        WEIGHTS.put("address", new int[] {3, 2, 3, 2});
        WEIGHTS.put("words", new int[] {3, 2, 3, 3});
        WEIGHTS.put("handles", new int[] {3, 2, 3, 1});
        WEIGHTS.put("equal", new int[] {6, 4, 6, 20});
    }

    private static final Map<String, Integer> SEEN = new HashMap<>();

    public static void main(String[] args) {
        Script script = new Script();
        for (int run = 0; run < RUNS; run++) {
            String wrong = difference(new Random(run), run);
            script.isTrue(wrong, wrong == null);
        }
        for (String answer : List.of(
                "spawn throws.IllegalStateException", "pair throws.IllegalStateException",
                "tuple throws.IllegalStateException", "blob throws.IllegalStateException",
                "blob throws.UnsupportedOperationException", "send throws.IllegalStateException", "send false",
                "receive throws.IllegalStateException", "equal throws.UnsupportedOperationException", "equal true",
                "equal false", "part throws.IllegalArgumentException", "name throws.IllegalArgumentException")) {
            script.isTrue("drawn too seldom: " + answer, SEEN.getOrDefault(answer, 0) > 20);
        }
        script.end();
    }

    private static String difference(Random random, int run) {
        int words = POOLS[random.nextInt(POOLS.length)];
        Caller program = new Caller(new CopyHeaps(words));
        Caller model = new Caller(new ModelHeaps(words));
        List<String> drawable = drawable(run);
        int latest = 0;
        for (int i = 0; i < CALLS; i++) {
            String name = i < 2 ? "spawn" : drawable.get(random.nextInt(drawable.size()));
            int[] arguments = draw(random, name, latest);
            String due = model.call(name, arguments);
            String got = program.call(name, arguments);
            SEEN.merge(name + " " + due, 1, Integer::sum);
            latest = model.number("count", 3);
            String call = "run " + run + ", call " + i + ": " + name + Arrays.toString(arguments);
            if (!due.equals(got)) {
                return call + " answered " + got + ", due is " + due;
            }
            if (i % STATE_EVERY == 0 && !model.state().equals(program.state())) {
                return call + " left " + program.state() + ", due is " + model.state();
            }
        }
        String due = Contents.withCounts(model);
        String got = Contents.withCounts(program);
        return due.equals(got) ? null : "run " + run + " left " + got + ", due is " + due;
    }

    private static List<String> drawable(int run) {
        List<String> names = new ArrayList<>();
        WEIGHTS.forEach((name, weights) -> {
            for (int i = 0; i < weights[run % weights.length]; i++) {
                names.add(name);
            }
        });
        return names;
    }

    static int[] draw(Random random, String name, int latest) {
        int p = process(random, latest);
        int r = register(random);
        int a = register(random);
        int b = register(random);
        return switch (name) {
            case "spawn" -> new int[] {};
            case "exit", "collect", "trim" -> new int[] {p};
            case "nil", "broadcast", "receive", "kind", "value", "address", "words", "handles" -> new int[] {p, r};
            case "integer" -> new int[] {p, r, integer(random)};
            case "name", "send" -> new int[] {p, r, process(random, latest)};
            case "move" -> new int[] {p, r, a};
            case "pair" -> random.nextInt(3) == 0 ? new int[] {p, r, r, r} : new int[] {p, r, a, b};
            case "tuple" -> new int[] {p, r, random.nextInt(40) == 0 ? random.nextInt(3) * 6 - 1 : random.nextInt(5)};
            case "blob" -> new int[] {p, r, random.nextInt(3) > 0 ? random.nextInt(5) : random.nextInt(104) - 1};
            case "part" -> new int[] {p, r, a, random.nextInt(20) == 0 ? random.nextInt(7) - 1 : random.nextInt(2)};
            case "count" -> new int[] {random.nextInt(30) == 0 ? random.nextInt(8) - 2 : random.nextInt(5)};
            case "of" -> new int[] {p, random.nextInt(30) == 0 ? random.nextInt(6) - 2 : random.nextInt(3)};
            case "equal" -> {
                int other = random.nextBoolean() ? p : process(random, latest);
                yield new int[] {p, r, other, random.nextBoolean() ? r : a};
            }
            default -> throw new IllegalArgumentException(name);
        };
    }

    private static int process(Random random, int latest) {
        if (random.nextInt(50) == 0) {
            return random.nextInt(latest + 4) - 1;
        }
        int newest = Math.max(1, latest);
        return Math.max(1, newest - random.nextInt(Math.min(newest, 6)));
    }

    private static int register(Random random) {
        return random.nextInt(80) == 0 ? random.nextInt(7) - 2 : random.nextInt(4);
    }

    private static int integer(Random random) {
        return switch (random.nextInt(12)) {
            case 0 -> 134217726 + random.nextInt(4);
            case 1 -> -134217730 + random.nextInt(4);
            default -> random.nextInt(3);
        };
    }
}
