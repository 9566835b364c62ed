import java.lang.reflect.InvocationTargetException;
import java.lang.reflect.Method;
import java.util.ArrayList;
import java.util.Collections;
import java.util.HashMap;
import java.util.List;
import java.util.Map;
import java.util.NoSuchElementException;
import java.util.Random;

/** Runs of calls by draws, each asked of the program and of the model, which must answer alike. */
public final class ModelTest {
    private static final int RUNS = 400;
    private static final int CALLS = 512;
    private static final String[] NAMES = {"aa", "b", "depth", "white", "hours", "silt", "longname", "m", "zz", "x", "kk"};
    private static final String[] DIVERS = {"ann", "bob", "cid", "dan"};
    private static final String[] KINDS = {"plain", "old", "afraid", "calm"};
    private static final String[] LAWS = {"1", "depth", "1 + depth + white", "hours + 1", "silt + hours * 2", "2 + (white<3)*depth"};
    private static final String[] SPOILS = {"", " ", "x", "9", ";", "(", ")", "A", "not ", "\n", "<", "rain ", "+", "aa", "99999"};
    private static final String[] QUESTIONS = {"place", "way", "diver", "cost", "judged", "open", "needs", "out", "thirds",
        "can", "reaches", "deepest", "all", "sure", "lacks", "clear", "led", "lost", "worst", "near", "lasts", "tie", "who",
        "ask", "bell", "slate", "together", "spent", "far", "lean", "chance", "rests", "years", "count"};
    private static final String[] DEEDS = {"swim", "swim", "swim", "lay", "lay", "stage", "take", "share", "stone", "hour",
        "undo", "mark", "find"};

    private final Random draws;
    private final DrownedCave program = new DrownedCave();
    private final Model model = new Model();
    private final int run;
    private int asked = 0;

    private ModelTest(int run) {
        this.run = run;
        draws = new Random(run);
    }

    public static void main(String[] args) throws Exception {
        for (int run = 0; run < RUNS; run++) {
            new ModelTest(run).play();
        }
        Probe.close();
    }

    private void play() throws Exception {
        boolean spoiled = run % 4 == 3;
        while (spoiled && asked < CALLS / 2) {
            tell(caveText(true), "cave");
            tell(diveText(true), "dive");
        }
        tell(caveText(false), "cave");
        tell(diveText(false), "dive");
        while (asked < CALLS) {
            String name = draws.nextInt(2) == 0 ? one(DEEDS) : one(QUESTIONS);
            if (draws.nextInt(300) == 0) {
                tell(caveText(false), "cave");
            } else if (name.equals("swim") || name.equals("lay")) {
                int diver = number(model.count(2));
                call(name, (long) diver, (long) wayAtHand(diver));
            } else if (name.equals("find") && model.count(2) > 0 && model.count(0) > 0 && draws.nextInt(8) > 0) {
                find();
            } else {
                call(name, argumentsOf(name));
            }
        }
    }

    /** What is found is mostly so of one of the divers: else who() would tell nobody, ever. */
    private void find() throws Exception {
        int place = draws.nextInt(model.count(0));
        int diver = draws.nextInt(model.count(2));
        boolean isSo = draws.nextInt(4) > 0;
        call("find", (long) place, (long) (isSo ? Math.min(9999, model.fresh(diver, place)) : draws.nextInt(60)));
    }

    private int wayAtHand(int diver) {
        List<Integer> ways = new ArrayList<>();
        for (int way = 0; way < model.count(1); way++) {
            int at = model.diver(diver, 1);
            if (model.way(way, 0) == at || model.way(way, 1) == at) {
                ways.add(way);
            }
        }
        return ways.isEmpty() || draws.nextInt(8) == 0 ? number(model.count(1)) : ways.get(draws.nextInt(ways.size()));
    }

    private Long[] argumentsOf(String name) {
        int place = number(model.count(0));
        int way = number(model.count(1));
        int diver = number(model.count(2));
        int other = number(model.count(2));
        int gas = new int[] {0, 1, 5, 20, 50, 99, 100}[draws.nextInt(7)];
        switch (name) {
            case "place": return row(place, number(3));
            case "way": return row(way, number(7));
            case "diver": return row(diver, number(5));
            case "cost": return row(diver, way);
            case "stage": case "take": return row(diver, gas);
            case "share": return row(diver, other, gas);
            case "stone": case "clear": return row(way);
            case "judged": return row(number(3));
            case "needs": case "lacks": return row(diver, place);
            case "out": case "thirds": case "reaches": case "deepest": case "lasts": case "lean": return row(diver);
            case "near": return row(diver, other);
            case "find": return row(place, gas);
            case "far": return row(place);
            case "chance": return row(way, 1 + number(6), number(11));
            case "rests": return row(number(10), number(10), number(10), draws.nextInt(7) - 2);
            case "years": return row(number(10000), 1 + number(99), number(3));
            case "mark": return row(number(4), draws.nextInt(2));
            case "count": return row(number(14));
            default: return row();
        }
    }

    /** 0 to below the bound, but for now and then one beside it or far from it. */
    private int number(int bound) {
        if (draws.nextInt(12) > 0) {
            return draws.nextInt(Math.max(1, bound));
        }
        int[] others = {-1, -1, bound, bound, 32, 64, -32, Integer.MAX_VALUE, Integer.MIN_VALUE};
        return others[draws.nextInt(others.length)];
    }

    private static Long[] row(int... numbers) {
        Long[] row = new Long[numbers.length];
        for (int i = 0; i < row.length; i++) {
            row[i] = (long) numbers[i];
        }
        return row;
    }

    private String one(String[] texts) {
        return texts[draws.nextInt(texts.length)];
    }

    // ---- texts

    private void tell(String text, String name) throws Exception {
        for (int i = 0; i < text.length(); i += 24) {
            call("feed", Probe.eight(text, i), Probe.eight(text, i + 8), Probe.eight(text, i + 16));
        }
        call(name);
    }

    private String caveText(boolean spoiled) {
        List<String> told = new ArrayList<>();
        List<String> names = new ArrayList<>(List.of(NAMES));
        Collections.shuffle(names, draws);
        int places = draws.nextInt(10) == 0 ? draws.nextInt(8) : 3 + draws.nextInt(5);
        List<String> ways = new ArrayList<>();
        for (int i = 0; i < places; i++) {
            told.add("place " + names.get(i) + " deep " + draws.nextInt(10));
            for (int k = 0; k < i; k++) {
                boolean turned = draws.nextBoolean();
                ways.add("way " + names.get(turned ? i : k) + " " + names.get(turned ? k : i)
                    + (draws.nextBoolean() ? " wide" : " narrow") + " long " + (1 + draws.nextInt(draws.nextInt(3) == 0 ? 9 : 3)));
            }
        }
        Collections.shuffle(ways, draws);
        told.addAll(ways.subList(0, Math.min(ways.size(), 4 + draws.nextInt(5))));
        for (int i = 0; i < 4 - draws.nextInt(3) / 2 * draws.nextInt(5); i++) {
            told.add("diver " + DIVERS[i] + " " + one(KINDS) + " gas " + (1 + draws.nextInt(draws.nextBoolean() ? 900 : 150)));
        }
        if (draws.nextInt(3) > 0) {
            StringBuilder rain = new StringBuilder("rain");
            int most = draws.nextBoolean() ? 10 : 4;
            for (int i = draws.nextInt(12); i >= 0; i--) {
                rain.append(' ').append(draws.nextInt(most));
            }
            told.add(rain.toString());
        }
        if (draws.nextInt(3) > 0) {
            told.add("breath " + (draws.nextBoolean() ? one(LAWS) : law(0)));
        }
        return joined(told, spoiled);
    }

    private String law(int within) {
        StringBuilder law = new StringBuilder(test(within));
        while (draws.nextInt(4) == 0) {
            law.append(draws.nextBoolean() ? " and " : " or ").append(test(within));
        }
        return law.toString();
    }

    private String test(int within) {
        return draws.nextInt(4) > 0 ? sum(within) : sum(within) + (draws.nextBoolean() ? "<" : " = ") + sum(within);
    }

    private String sum(int within) {
        StringBuilder sum = new StringBuilder(product(within));
        while (draws.nextInt(3) == 0) {
            sum.append(draws.nextBoolean() ? " + " : "-").append(product(within));
        }
        return sum.toString();
    }

    private String product(int within) {
        return draws.nextInt(4) > 0 ? part(within) : part(within) + "*" + part(within);
    }

    private String part(int within) {
        int kind = draws.nextInt(10);
        if (within >= 4 || kind > 3) {
            return draws.nextBoolean() ? one(new String[] {"depth", "white", "silt", "hours"})
                : String.valueOf(draws.nextInt(draws.nextInt(4) == 0 ? 10000 : 10));
        }
        return kind > 1 ? "not " + part(within + 1) : "( " + law(within + 1) + ")";
    }

    private String diveText(boolean spoiled) {
        List<String> told = new ArrayList<>();
        int divers = Math.max(1, model.count(2));
        for (int i = 1 + draws.nextInt(40); i > 0; i--) {
            int diver = draws.nextInt(divers);
            int way = draws.nextInt(draws.nextInt(9) == 0 ? 8 : Math.max(1, model.count(1)));
            int gas = 1 + draws.nextInt(draws.nextInt(4) == 0 ? 99 : 9);
            switch (draws.nextInt(8)) {
                case 0: case 1: told.add("swim " + DIVERS[diver] + " " + way); break;
                case 2: told.add("lay " + DIVERS[diver] + " " + way); break;
                case 3: told.add("stage " + DIVERS[diver] + " " + gas); break;
                case 4: told.add("take " + DIVERS[diver] + " " + gas); break;
                case 5: told.add("share " + DIVERS[diver] + " " + DIVERS[(diver + 1) % 4] + " " + gas); break;
                case 6: told.add("stone " + way); break;
                default: told.add("hour");
            }
        }
        return joined(told, spoiled);
    }

    private String joined(List<String> told, boolean spoiled) {
        if (spoiled && !told.isEmpty() && draws.nextBoolean()) {
            told.add(draws.nextInt(told.size() + 1), told.get(draws.nextInt(told.size())));
        }
        StringBuilder text = new StringBuilder();
        for (String line : told) {
            text.append(line).append(draws.nextBoolean() ? ";" : " ;\n");
        }
        for (int i = spoiled ? draws.nextInt(3) : 0; i > 0; i--) {
            int at = draws.nextInt(text.length() + 1);
            text.replace(at, Math.min(text.length(), at + draws.nextInt(3)), one(SPOILS));
        }
        return text.toString();
    }

    // ---- calls

    /** Nothing is asked beyond the last call about which the document promises something. */
    private void call(String name, Long... arguments) throws Exception {
        if (asked >= CALLS) {
            return;
        }
        asked++;
        StringBuilder told = new StringBuilder("run " + run + ", call " + asked + ": " + name);
        for (Long argument : arguments) {
            told.append(' ').append(argument);
        }
        Probe.due(told.toString(), answer(program, name, arguments), answer(model, name, arguments));
    }

    private static final Map<String, Method> METHODS = new HashMap<>();

    private static Method methodOf(Object of, String name) {
        return METHODS.computeIfAbsent(of.getClass().getName() + "." + name, key -> {
            for (Method method : of.getClass().getMethods()) {
                if (method.getName().equals(name)) {
                    return method;
                }
            }
            throw new IllegalArgumentException(key);
        });
    }

    /** A boolean counts 1 or 0; what is thrown, a number that no call answers. */
    private static long answer(Object of, String name, Long... arguments) throws Exception {
        Method method = methodOf(of, name);
        Object[] given = new Object[arguments.length];
        for (int i = 0; i < given.length; i++) {
            Class<?> type = method.getParameterTypes()[i];
            given[i] = type == long.class ? arguments[i] : type == boolean.class ? (Object) (arguments[i] != 0)
                : (Object) arguments[i].intValue();
        }
        try {
            Object got = method.invoke(of, given);
            return got instanceof Boolean ? (boolean) got ? 1 : 0 : ((Number) got).longValue();
        } catch (InvocationTargetException e) {
            if (e.getCause() instanceof NoSuchElementException) {
                return Long.MIN_VALUE;
            }
            throw e;
        }
    }
}
