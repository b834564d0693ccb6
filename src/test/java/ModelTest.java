import java.lang.reflect.InvocationTargetException;
import java.lang.reflect.Method;
import java.lang.reflect.Modifier;
import java.util.ArrayList;
import java.util.Comparator;
import java.util.HashMap;
import java.util.List;
import java.util.Map;
import java.util.Random;

/** Runs of drawn calls, ordinary and wrong ones, on PassLink and on the model: both answer alike. */
public final class ModelTest {
    private static final int CALLS = 500;
    private static final int RUNS = 160;

    private final Random random;
    private final int run;
    private final PassLink link = new PassLink();
    private final Model model = new Model();
    private final List<String> story = new ArrayList<>();
    private boolean failed = false;
    private static final List<Method> METHODS = methods();
    private static final Map<String, Method> TWINS = twins();

    private ModelTest(int run) {
        this.run = run;
        this.random = new Random(run);
    }

    public static void main(String[] args) {
        int from = args.length > 0 ? Integer.parseInt(args[0]) : 0;
        int to = args.length > 1 ? Integer.parseInt(args[1]) : RUNS;
        for (int run = from; run < to; run++) {
            new ModelTest(run).play();
        }
        Check.end();
    }

    private static List<Method> methods() {
        List<Method> methods = new ArrayList<>();
        for (Method method : PassLink.class.getDeclaredMethods()) {
            if (Modifier.isPublic(method.getModifiers())) {
                methods.add(method);
            }
        }
        methods.sort(Comparator.comparing(Method::getName));
        return methods;
    }

    private static Map<String, Method> twins() {
        Map<String, Method> twins = new HashMap<>();
        for (Method method : METHODS) {
            try {
                Method twin = Model.class.getDeclaredMethod(method.getName(), method.getParameterTypes());
                twin.setAccessible(true);
                twins.put(method.getName(), twin);
            } catch (NoSuchMethodException e) {
                throw new AssertionError(e);
            }
        }
        return twins;
    }

    private void play() {
        setUp();
        while (story.size() < CALLS && !failed) {
            int kind = random.nextInt(100);
            if (run % 6 == 5 && kind < 70) {
                flicker();
            } else if (kind < 12) {
                call("advance", between(1, random.nextInt(3) == 0 ? 1440 : 120));
            } else if (kind < 20) {
                call("addRecord", between(1, 24), between(0, 9));
            } else if (kind < 22 && !isCalm() && story.size() < CALLS - 110) {
                setup();
            } else {
                Method method = METHODS.get(random.nextInt(METHODS.size()));
                if (!isCalm() || !breaksRun(method.getName()) || random.nextInt(20) == 0) {
                    call(method.getName(), arguments(method));
                }
            }
        }
    }

    /** Stations come and go with the node, so that contacts are forgotten ahead of their reports. */
    private void flicker() {
        call("setOrbit", 60, 0, 60 * between(0, 5));
        call("advance", between(1, 3));
    }

    /** Two of three runs keep their sky, so that many contacts, reports and losses come about. */
    private boolean isCalm() {
        return run % 3 != 0;
    }

    private static boolean breaksRun(String name) {
        return List.of("load", "restore", "setOrbit", "setGroundDelay", "setPatience").contains(name);
    }

    /** Most runs begin with something to do: stations in reach of each other, small delays. */
    private void setUp() {
        if (isCalm()) {
            call("setOrbit", between(60, 100), random.nextInt(2) == 0 ? 0 : between(0, 12), between(0, 20));
        } else if (random.nextInt(4) > 0) {
            call("setOrbit", between(60, random.nextInt(2) == 0 ? 60 : 200), between(0, 40), between(0, 359));
        }
        int stations = isCalm() ? between(1, 4) : between(0, 4);
        for (int n = 0; n < stations; n++) {
            call("addStation", stationNumbers());
        }
        if (isCalm() || random.nextInt(2) == 0) {
            call("setGroundDelay", between(0, random.nextInt(2) == 0 ? 999 : 100));
            call("setPatience", between(1, random.nextInt(2) == 0 ? 100 : 500));
            call("setPolicy", between(0, 1));
        }
        if (random.nextInt(3) == 0) {
            call("setMemory", 960);
        }
    }

    private Object[] stationNumbers() {
        return new Object[] {between(0, isCalm() && run % 6 != 5 ? 40 : 359), between(10, 90), between(1, 30),
            between(0, isCalm() ? 30 : 59), between(1, random.nextInt(2) == 0 ? 3 : 20),
            random.nextInt(3) > 0 ? between(0, 99) : 0};
    }

    private int between(int low, int high) {
        return low + random.nextInt(high - low + 1);
    }

    private Object[] arguments(Method method) {
        if (method.getName().equals("addStation") && random.nextInt(3) > 0) {
            return stationNumbers();
        }
        Class<?>[] types = method.getParameterTypes();
        Object[] arguments = new Object[types.length];
        for (int k = 0; k < types.length; k++) {
            arguments[k] = types[k] == boolean.class ? (Object) random.nextBoolean() : (Object) argument(method.getName(), k);
        }
        return arguments;
    }

    private int argument(String name, int place) {
        if (random.nextInt(25) == 0) {
            int[] odd = {-1, -2, Integer.MIN_VALUE, Integer.MAX_VALUE, 1000, 1441, 100000, 360, 10, 24, 25, 4, 8, 20, 0};
            return odd[random.nextInt(odd.length)];
        }
        switch (name) {
            case "setOrbit":
                return place == 0 ? between(60, 200) : between(0, 359);
            case "addStation":
                return between(0, new int[] {360, 91, 31, 60, 21, 100}[place]);
            case "setLoss":
                return place == 0 ? between(-1, 4) : between(0, 100);
            case "setGroundDelay":
            case "setFresh":
                return place == 0 ? between(0, random.nextInt(2) == 0 ? 1000 : 100) : between(0, 10);
            case "setPatience":
                return between(0, random.nextInt(2) == 0 ? 10000 : 200);
            case "setMemory":
                return between(23, 961);
            case "setSeed":
                return random.nextInt();
            case "passBegin":
            case "passEnd":
            case "passFrames":
                return place == 0 ? between(-1, 4) : between(0, 1000);
            case "isVisible":
            case "nextPass":
                return place == 0 ? between(-1, 4) : aTime();
            case "passTable":
                return place == 0 ? aTime() : place == 1 ? between(-1, 20) : between(-1, 4);
            case "coverage":
                return place == 0 ? between(-2, 4) : place == 1 ? aTime() : between(0, 1441);
            case "longestGap":
            case "bestStation":
                return place == 0 ? aTime() : between(0, 1441);
            case "addRecord":
                return place == 0 ? between(0, 25) : between(-1, 10);
            case "setPriority":
            case "sentIn":
            case "frames":
                return place == 0 ? aRecord() : name.equals("sentIn") ? between(-1, 24) : between(-1, 10);
            case "urgency":
            case "resumePoint":
            case "deliveredAt":
            case "releasedAt":
            case "deliveryForecast":
                return aRecord();
            case "contactStation":
            case "contactBegin":
            case "contactEnd":
            case "reportState":
            case "contactTotal":
                return aContact();
            case "contactFrames":
                return place == 0 ? aContact() : aRecord();
            case "advance":
            case "bestPolicy":
                return between(0, 1441);
            case "appendText":
                return random.nextInt();
            case "truncateText":
                return between(-1, 8);
            case "save":
            case "restore":
            case "setPolicy":
                return between(-1, 2);
            default:
                return between(-1, 10);
        }
    }

    private int aTime() {
        switch (random.nextInt(3)) {
            case 0:
                return between(0, 100000);
            case 1:
                return between(0, 2000);
            default:
                return model.time() + between(-5, 100);
        }
    }

    private int aRecord() {
        return between(-1, model.recordCount());
    }

    private int aContact() {
        int count = model.contactCount();
        return random.nextInt(3) == 0 ? between(-1, count) : count - 1 - random.nextInt(62);
    }

    /** A text that is a setup but for a change here and there. */
    private void setup() {
        StringBuilder text = new StringBuilder();
        int statements = between(0, 18);
        for (int n = 0; n < statements; n++) {
            text.append(statement());
        }
        int changes = random.nextInt(3) == 0 ? between(1, 2) : 0;
        for (int n = 0; n < changes && text.length() > 0; n++) {
            int at = random.nextInt(text.length());
            switch (random.nextInt(4)) {
                case 0 -> text.deleteCharAt(at);
                case 1 -> text.insert(at, ";az09 \n\t#{/:`A".charAt(random.nextInt(14)));
                case 2 -> text.setLength(at);
                default -> text.setCharAt(at, (char) random.nextInt(256));
            }
        }
        call("truncateText", 0);
        int length = Math.min(400, text.length());
        text.append("    ");
        for (int at = 0; at < length; at += 4) {
            int four = 0;
            for (int k = 0; k < 4; k++) {
                four = four << 8 | text.charAt(at + k) & 255;
            }
            call("appendText", four);
        }
        call("truncateText", length);
        call("load");
        call("errorCode");
        call("errorPosition");
    }

    private String statement() {
        String gap = random.nextInt(4) == 0 ? "\n  " : " ";
        switch (random.nextInt(12)) {
            case 0:
                return "orbit" + number(60, 200) + gap + number(0, 359) + gap + number(0, 359) + ";";
            case 1:
            case 2:
                return gap + "station " + number(0, 359) + gap + number(0, 90) + gap + number(1, 30) + " "
                        + number(0, 59) + gap + number(1, 20) + " " + number(0, 99) + ";";
            case 3:
                return "ground" + gap + number(0, 999) + gap + ";";
            case 4:
                return "patience " + number(1, 9999) + ";";
            case 5:
                return "fresh " + number(0, 999) + " " + number(0, 9) + ";";
            case 6:
                return "memory " + number(24, random.nextInt(2) == 0 ? 960 : 60) + ";";
            case 7:
                return "policy " + (random.nextBoolean() ? "stay" : "longest") + gap + ";";
            default:
                return "record " + number(1, 24) + gap + number(0, 9) + ";" + gap;
        }
    }

    private String number(int low, int high) {
        switch (random.nextInt(150)) {
            case 0:
                return Integer.toString(high + 1);
            case 1:
                return low == 0 ? "4294967296" : Integer.toString(low - 1);
            case 2:
                return "000000000000" + between(low, high);
            default:
                return Integer.toString(between(low, high));
        }
    }

    private void call(String name, Object... arguments) {
        if (failed || story.size() >= CALLS) {
            return;
        }
        Method method = METHODS.stream().filter(m -> m.getName().equals(name)).findFirst().orElseThrow();
        String got = answer(method, link, arguments);
        String due = answer(TWINS.get(name), model, arguments);
        story.add(name + List.of(arguments) + " -> " + got);
        if (!got.equals(due)) {
            failed = true;
            Check.is("run " + run + ", call " + story.size() + ", " + name + List.of(arguments), got, due);
        }
    }

    private static String answer(Method method, Object object, Object[] arguments) {
        try {
            return String.valueOf(method.invoke(object, arguments));
        } catch (InvocationTargetException e) {
            return "throws." + e.getCause().getClass().getSimpleName();
        } catch (IllegalAccessException e) {
            throw new AssertionError(e);
        }
    }
}
