import java.lang.reflect.Method;
import java.util.ArrayList;
import java.util.Arrays;
import java.util.Comparator;
import java.util.List;
import java.util.Random;

/** Runs of 512 calls by fixed seeds, on the class and on the reference: every answer must be the same. */
public final class ReferenceTest {
    private static final int RUNS = 900;
    private static final int CALLS = 512;
    private static final int[] EXTREME = {
        Integer.MIN_VALUE, Integer.MAX_VALUE, -1000, -10, -9, -3, -2, -1, 0, 1, 2, 3, 4, 5, 6, 7, 8, 9, 10, 11, 12, 15,
        16, 17, 19, 20, 21, 23, 24, 60, 61, 63, 64, 71, 72, 73, 95, 96, 97, 98, 99, 100, 255, 256, 257, 999, 1000};

    private final Random random;
    private final WhichWayRound x = new WhichWayRound();
    private final Reference reference = new Reference();
    private final List<Method> methods;
    private final StringBuilder story = new StringBuilder();
    private int calls = 0;
    private boolean same = true;

    private ReferenceTest(long seed, List<Method> methods) {
        random = new Random(seed);
        this.methods = methods;
    }

    /** Answers what is due; nothing is called any more where the run is at its end. */
    private long call(String name, int... numbers) throws Exception {
        if (calls >= CALLS || !same) {
            return 0;
        }
        calls++;
        Class<?>[] types = new Class<?>[numbers.length];
        Arrays.fill(types, int.class);
        Object[] arguments = Arrays.stream(numbers).boxed().toArray();
        Object got;
        try {
            got = WhichWayRound.class.getMethod(name, types).invoke(x, arguments);
        } catch (java.lang.reflect.InvocationTargetException thrown) {
            got = thrown.getCause();
        }
        Object due = Reference.class.getMethod(name, types).invoke(reference, arguments);
        story.append(name).append(Arrays.toString(numbers)).append(" = ").append(due).append('\n');
        if (!due.equals(got)) {
            same = false;
            story.append("   answered ").append(got).append('\n');
        }
        return ((Number) due).longValue();
    }

    private int digit() {
        return random.nextInt(10);
    }

    private String statement() {
        int streets = Math.max(1, reference.count(0));
        switch (random.nextInt(12)) {
            case 0: case 1: return "s" + random.nextInt(random.nextInt(8) == 0 ? 8 : 6) + digit() + (random.nextInt(9) + 1);
            case 2: case 3: return "w" + String.format("%03d", random.nextInt(1 << streets));
            case 4: return "l" + digit();
            case 5: case 6: return "k" + random.nextInt(4) + random.nextInt(streets);
            case 7: return "h" + String.format("%02d", random.nextInt(random.nextInt(6) == 0 ? 30 : 24));
            case 8: case 9: return "t" + random.nextInt(4) + random.nextInt(4);
            case 10: return "m" + digit() + digit();
            default: return "d";
        }
    }

    private void tellTown() throws Exception {
        StringBuilder text = new StringBuilder();
        int statements = random.nextInt(random.nextInt(5) == 0 ? 30 : 6);
        for (int i = 0; i < statements; i++) {
            text.append(statement()).append(';');
        }
        if (random.nextInt(4) == 0 && text.length() > 0) {
            int place = random.nextInt(text.length());
            switch (random.nextInt(3)) {
                case 0: text.setLength(place); break;
                case 1: text.deleteCharAt(place); break;
                default: text.setCharAt(place, "swlkhtmd;0159/:x\u0000\u00ff".charAt(random.nextInt(18)));
            }
        }
        for (int i = 0; i < text.length(); i++) {
            call("feed", text.charAt(i));
        }
        call("town");
    }

    /** A number that is mostly in range for its place, sometimes any other. */
    private int number(String name, int place) {
        int odds = random.nextInt(30);
        if (odds == 0) {
            return EXTREME[random.nextInt(EXTREME.length)];
        }
        if (odds == 1) {
            return random.nextInt();
        }
        switch (name) {
            case "street": return place == 0 ? random.nextInt(6) : place == 1 ? digit() : 1 + random.nextInt(9);
            case "way": return 1 + random.nextInt(Math.max(1, 1 << reference.count(0)));
            case "learner": case "newcomer": return digit();
            case "sets": return place == 0 ? random.nextInt(2) : random.nextInt(random.nextInt(3) == 0 ? 99 : 24);
            case "feed": return "swlkhtmd;0123456789".charAt(random.nextInt(19));
            case "row": return random.nextInt(random.nextInt(9) == 0 ? 10 : 3);
            case "made": return random.nextInt(place == 0 ? 1 << random.nextInt(7) : place == 1 ? 73 : 60);
            case "moped": case "career": return place == 0 && name.equals("career")
                    ? random.nextInt(3) : place == 1 && name.equals("moped")
                    ? random.nextInt(2) : random.nextInt(random.nextBoolean() ? 9 : 61);
            case "lots": return place == 0 ? 1 + random.nextInt(20) : place == 1 ? random.nextInt() : random.nextInt(2);
            case "ball": return place == 2 ? 2 + random.nextInt(19) : random.nextInt(place < 2 ? 3 : 2);
            case "count": return random.nextInt(18);
            case "fair": return place == 0 ? random.nextInt(24) : random.nextInt(7);
            case "queue": case "rank": return random.nextInt(6) - place;
            case "gain": return random.nextInt(place == 0 ? 3 : 8) - place;
            case "learn": return place == 0 ? random.nextInt(3) : place == 1 ? random.nextInt(5) - 1 : random.nextInt(24);
            case "wayOf": return place == 1 ? random.nextInt(24) : random.nextInt(4);
            case "faults": return place == 2 ? hourLike() : random.nextInt(3);
            case "easiest": case "drawnWay": return place == 1 ? hourLike() : random.nextInt(2);
            case "lessons": case "skillWanted": return place == 2 ? hourLike() : random.nextInt(4);
            default: return random.nextInt(random.nextBoolean() ? 3 : 6);
        }
    }

    private int hourLike() {
        return random.nextBoolean() ? new int[] {8, 14, 15, 16, 17, 18}[random.nextInt(6)] : random.nextInt(24);
    }

    private void tellWhoPassed() throws Exception {
        call("clear");
        int many = random.nextInt(reference.count(2) + 1);
        for (int i = 0; i < many; i++) {
            call("row", random.nextInt(3));
        }
        for (int what = 0; what < 3; what++) {
            call("strict", random.nextInt(Math.max(1, reference.count(1))), what);
        }
    }

    private void tellFaults() throws Exception {
        int learner = random.nextInt(Math.max(1, reference.count(2)));
        int many = random.nextInt(reference.count(0) + 2);
        int skill = (int) call("learnerOf", learner, 0);
        int known = (int) call("learnerOf", learner, 1);
        call("clear");
        for (int i = 0; i < many; i++) {
            int faults = Math.max(0, (int) call("streetOf", i, 3) - skill);
            faults = (known >> i & 1) == 1 ? faults / 2 : faults;
            call("row", random.nextInt(12) == 0 ? faults + 1 : faults);
        }
        call("judge", learner);
    }

    private boolean run() throws Exception {
        int before = random.nextInt(9);
        for (int i = 0; i < before; i++) {
            call("street", number("street", 0), number("street", 1), number("street", 2));
        }
        for (int i = 0; i < before; i++) {
            call("way", number("way", 0));
            call("learner", digit());
        }
        while (calls < CALLS && same) {
            int odds = random.nextInt(40);
            if (odds == 0) {
                tellTown();
            } else if (odds == 1) {
                tellWhoPassed();
            } else if (odds == 2) {
                tellFaults();
            } else {
                Method m = methods.get(random.nextInt(methods.size()));
                int[] numbers = new int[m.getParameterCount()];
                for (int place = 0; place < numbers.length; place++) {
                    numbers[place] = number(m.getName(), place);
                }
                call(m.getName(), numbers);
            }
        }
        return same;
    }

    public static void main(String[] args) throws Exception {
        List<Method> methods = new ArrayList<>(Arrays.asList(WhichWayRound.class.getDeclaredMethods()));
        methods.removeIf(m -> !java.lang.reflect.Modifier.isPublic(m.getModifiers()));
        methods.sort(Comparator.comparing(Method::getName));
        int runs = args.length > 0 ? Integer.parseInt(args[0]) : RUNS;
        int failed = 0;
        for (int seed = 0; seed < runs && failed < 3; seed++) {
            ReferenceTest test = new ReferenceTest(seed, methods);
            if (!test.run()) {
                failed++;
                System.out.println("run " + seed + ", of " + test.calls + " calls:\n" + test.story);
            }
        }
        System.out.println(failed == 0 ? runs + " runs are as the reference" : "not as the reference");
        if (failed != 0) {
            System.exit(1);
        }
    }
}
